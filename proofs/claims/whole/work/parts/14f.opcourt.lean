/-! ===== court ===== -/
theorem zpi_c {M' M : zM} (h : ∀ o j, o < 75 ∨ 89 ≤ o → M'.1 o j = M.1 o j ∧ M'.2 o j = M.2 o j) : zpi M' = zpi M := zpi_of (fun o j hi => by
  by_cases c : 75 ≤ o ∧ o < 89
  · have : irr o j = true := by
      unfold irr
      split
      · omega
      · omega
      · have e1 : Nat.ble 75 o = true := Nat.ble_eq_true_of_le c.1
        have e2 : Nat.ble o 88 = true := Nat.ble_eq_true_of_le (by omega)
        rw [e1, e2]
        simp
    rw [this] at hi
    cases hi
  · exact h o j (by omega))
section OPCOURT
variable {E : zEv} {D : Nat} {M : zM} {K : zM → Prop} {b : Nat → Nat} {n : Nat} {f : zRow}
/-- the world goes back -/
theorem s_court_90 {post : Int32 → zM → Prop} {px : String → zM → Prop} (hp : post 0 (zcp M 1 0 3 0 1221)) : w_X12_court_90 E D post px M := by
  have key := zup_loop (fun i => w_X12_court_92 E D post px (nI i) (zcp M 1 0 3 0 i)) 1221 (fun i hi ih => ?_) ?_ 0 (by decide)
  · rw [zcp_0] at key
    exact t_X12_court_90 key
  · refine t_X12_court_92 (pk_le 1221 i (fun z => absurd z (by omega)) (fun _ => ⟨pk_in i _ (by omega), pk_in i _ (by omega), fun M8 e8 => ?_⟩))
    rw [nI_clamp (by omega)] at e8
    have e2 := zcp_succ (M := M) (o := 1) (d := 0) (o2 := 3) (s := 0) (n := i) (Or.inl (by decide))
    rw [Nat.zero_add] at e2
    rw [e8, e2, nI_1]
    exact ih
  · exact t_X12_court_92 (pk_le 1221 1221 (fun _ => hp) (fun z => absurd z (by omega)))
/-- the reference's half, as far as the text is read -/
theorem s_X12_court {post : Int32 → zM → Prop} {px : String → zM → Prop} (h4 : n ≤ 400) (h9 : M.1 0 9 = nI n) (hb : ∀ j, j < 400 → M.1 6 j = sb (b j) ∧ b j < 256) (hf : M.1 1 = f) (hk : okF f) (h0 : ∀ e, pCourt b n f = .inl e → ∀ M', M'.1 0 12 = nI e → offW M' (usM (zcp M 3 0 1 0 1221)) → w_X12_court_46 E (D + 10) post px (-1) (nI e) M') (h1 : ∀ g, pCourt b n f = .inr g → ∀ M' v, M'.1 1 = g → offW M' (usM (zcp M 3 0 1 0 1221)) → v ≤ 14 → w_X12_court_46 E (D + 10) post px (nI v) (-1) M') : zCi E jX12_court (D + 11) 0 [.ref 0] M post px := by
  have key := zup_loop (fun i => w_X12_court_2 E (D + 10) post px (nI i) (zcp M 3 0 1 0 i)) 1221 (fun i hi ih => ?_) ?_ 0 (by decide)
  · rw [zcp_0] at key
    exact e_X12_court key
  · refine t_X12_court_2 (pk_le 1221 i (fun z => absurd z (by omega)) (fun _ => ⟨pk_in i _ (by omega), pk_in i _ (by omega), fun M8 e8 => ?_⟩))
    rw [nI_clamp (by omega)] at e8
    have e2 := zcp_succ (M := M) (o := 3) (d := 0) (o2 := 1) (s := 0) (n := i) (Or.inl (by decide))
    rw [Nat.zero_add] at e2
    rw [e8, e2, nI_1]
    exact ih
  · refine t_X12_court_2 (pk_le 1221 1221 (fun _ => ?_) (fun z => absurd z (by omega)))
    have z1 : (zcp M 3 0 1 0 1221).1 1 = f := by funext j; rw [zcp_out (Or.inl (by decide)), hf]
    refine s_X12_readCourt (b := b) h4 (by rw [zcp_out (Or.inl (by decide))]; exact h9) (fun j hj => by rw [zcp_out (Or.inl (by decide))]; exact hb j hj) z1 hk (fun e he M' a1 a2 => ⟨fun z => absurd z (by decide), fun _ => by rw [a1]; exact h0 e he M' a1 a2⟩) (fun g hg M' v a1 a2 a3 => ⟨fun _ => h1 g hg M' v a1 a2 a3, fun z => absurd (le0N (by omega)) z⟩)
theorem op_court (h : Rel M) (hK : ∀ M', Rel M' → K M') : zCWi E jL_court (D + 20) 1 [.ref 19, .ref 18] M (opR E jX12_court (D + 20) [.ref 0] K) := by
  obtain ⟨n, hn, t1, t2⟩ := h.sz
  have ht : tcC M (byF M) n := ⟨hn, t1, fun j hj => ⟨(h.by hj).1, (h.by hj).2.2⟩⟩
  have hk := h.ok
  have f4 : M.1 1 4 = nI (tn (M.1 1 4)) := hk.1.2.2.2.2.1.eq (by decide)
  have f12 : tn (M.1 1 4) ≤ 12 := hk.1.2.2.2.2.1.le (by decide)
  have n4' : ((4 : Int32)).toNatClampNeg = 4 := rfl
  refine e_L_court (e_X11_court (s_X3_copy zc75 zc61 (by decide) (fun M0 c0 o0 => ?_)))
  have z0 : zpi M0 = zpi M := zpi_c (fun o j g => by
    obtain ⟨a1, a2⟩ := o0 o (by omega)
    exact ⟨by rw [a1], by rw [a2]⟩)
  have cr0 : cR M0 75 (M.1 1) := cR_copy hk h.now c0
  refine s_X4_read (ht.pi z0) cr0 hk (fun e he M1 b1 b2 => z0A ?_) (fun g hg M1 b2 crg => z1B ?_)
  · have e4 := (court_p hk).1 e he
    refine t_X11_court_37 (fun M2 e2 => e_X9_useUp (fun M3 e3 => ?_))
    have v3 : M3.1 19 11 = nI e := by rw [e3, zup_o (by decide), e2, zup_s, b1]
    rw [v3]
    refine ⟨fun z => absurd z (nI_m1 (by omega)), fun _ => Or.inl ⟨rfl, fun px => ?_⟩⟩
    have O3 : ∀ o j, irr o j = false → ¬ (o = 20 ∧ j = 1) → ¬ (o = 19 ∧ j = 11) → M3.1 o j = M.1 o j := fun o j g1 g2 g3 => by rw [e3, zup_n (by omega), e2, zup_n (by omega)]; exact zpi_at (b2.trans z0) g1
    have L3 : ∀ o j, irr o j = false → M3.2 o j = M.2 o j := fun o j g1 => by rw [e3, zup_L, e2, zup_L]; exact zpi_atL (b2.trans z0) g1
    have w3 : M3.1 1 = M.1 1 := funext fun j => O3 1 j rfl (by omega) (by omega)
    refine s_X12_court (b := byF M) hn (by rw [O3 0 9 rfl (by omega) (by omega)]; exact t2) (fun j hj => by rw [O3 6 j rfl (by omega) (by omega)]; exact ⟨(h.by hj).2.1, (h.by hj).2.2⟩) w3 hk (fun e' he' M4 d1 d2 => ?_) (fun g' hg' => absurd (he.symm.trans hg') (fun z => by cases z))
    have ee : e = e' := Sum.inl.inj (he.symm.trans he')
    subst ee
    refine t_X12_court_46 (fun M5 e5 => ⟨fun z => absurd z (by decide), fun _ => t_X12_court_59 (s_throws1 (z1A (s_court_90 ⟨?_, fun z => absurd z (by decide), hK _ ?_⟩)))⟩)
    · rw [zcp_out (Or.inl (by decide)), zup_s]
    · have x3 : ∀ j, j < 1221 → (zup M5 0 0 1).1 3 j = M.1 1 j := fun j hj => by
        rw [zup_o (by decide), e5, zup_o (by decide), d2.1 3 j (by decide) (by decide), us_o (by decide), zcp_in (by omega) (by omega), w3]
        exact congrArg (M.1 1) (by omega)
      have x0 : ∀ j, irr 0 j = false → j ≠ 9 → j ≠ 14 → (zup M5 0 0 1).1 0 j = M.1 0 j := fun j g1 g2 g3 => by
        have i0 := irr_0 g1
        rw [zup_n (by omega), e5, zup_n (by omega), d2.2.1 j (by omega) (by omega) (by omega), usM_0 (by omega) (by omega) (by omega) (by omega), zcp_out (Or.inl (by decide))]
        exact O3 0 j g1 (by omega) (by omega)
      have xo : ∀ o j, o ≠ 0 → o ≠ 1 → o ≠ 3 → (zup M5 0 0 1).1 o j = M3.1 o j := fun o j g1 g2 g3 => by
        rw [zup_o g1, e5, zup_o g1, d2.1 o j g1 g2, us_o g1, zcp_out (Or.inl g3)]
      have xL : (zup M5 0 0 1).2 = M3.2 := by rw [zup_L, e5, zup_L, d2.2.2, us_L, zcp_L]
      refine h.fail (fun o j g1 g2 g3 g4 g5 g6 => ⟨?_, ?_⟩) ?_ ?_ ?_
      · by_cases co : o = 1
        · subst co
          rw [zcp_in (by omega) (by omega), x3 _ (by omega)]
          exact congrArg (M.1 1) (by omega)
        · rw [zcp_out (Or.inl co)]
          by_cases c0' : o = 0
          · subst c0'
            exact x0 j g1 (by omega) (by omega)
          · have c3 : o ≠ 3 := fun q => by rw [q] at g1; cases g1
            rw [xo o j c0' co c3]
            exact O3 o j g1 g2 g4
      · rw [zcp_L, xL]; exact L3 o j g1
      · rw [zcp_out (Or.inl (by decide)), xo 20 1 (by decide) (by decide) (by decide), e3, zup_s]
      · rw [zcp_out (Or.inl (by decide)), zup_n (Or.inr (by decide)), e5, zup_n (Or.inr (by decide)), d2.2.1 9 (by decide) (by decide) (by decide)]; rfl
      · rw [zcp_out (Or.inl (by decide)), zcp_out (Or.inl (by decide)), xo 19 11 (by decide) (by decide) (by decide), v3, zup_n (Or.inr (by decide)), e5, zup_s]
  · obtain ⟨okg, fg⟩ := (court_p hk).2 g hg
    refine t_X11_court_37 (fun M2 e2 => e_X9_useUp (fun M3 e3 => ?_))
    have v3 : M3.1 19 11 = -1 := by rw [e3, zup_o (by decide), e2, zup_s]
    have O3 : ∀ o j, irr o j = false → ¬ (o = 20 ∧ j = 1) → ¬ (o = 19 ∧ j = 11) → M3.1 o j = M.1 o j := fun o j g1 g2 g3 => by rw [e3, zup_n (by omega), e2, zup_n (by omega)]; exact zpi_at (b2.trans z0) g1
    have L3 : ∀ o j, irr o j = false → M3.2 o j = M.2 o j := fun o j g1 => by rw [e3, zup_L, e2, zup_L]; exact zpi_atL (b2.trans z0) g1
    have w3 : M3.1 1 = M.1 1 := funext fun j => O3 1 j rfl (by omega) (by omega)
    have cr3 : cR M3 75 g := cR_same (fun o j h1 h2 => ⟨by rw [e3, zup_o (by omega), e2, zup_o (by omega)], by rw [e3, zup_L, e2, zup_L]⟩) okg crg
    have t3 : M3.1 61 9 = nI (tn (M.1 1 4)) := (O3 61 9 rfl (by omega) (by omega)).trans (h.now.1.2.2.2.2.1.trans f4)
    have g4 : g 4 = nI (tn (M.1 1 4)) := fg.2.1.trans f4
    rw [v3]
    refine ⟨fun _ => ?_, fun z => absurd rfl z⟩
    refine pk_lt (tn (M.1 1 4)) 12 (fun c => ?_) (fun c => Or.inr ⟨rfl, fun px => ?_⟩) t3
    · refine s_X3_copy zc61 zc75 (by decide) (fun M12 c12 o12 M14 e14 => e_X5_forget (fun M16 e16 M4 e4 px => ?_))
      have cr12 : cR M12 61 g := cR_copy okg cr3 c12
      have t12 : M12.1 61 9 = nI (tn (M.1 1 4)) := cr12.1.2.2.2.2.1.trans g4
      rw [t12, nI_1] at e14
      have cr14 : cR M14 61 (upd g 4 (nI (tn (M.1 1 4) + 1))) := cr_texts okg cr12 (fun o j a1 a2 a3 => by rw [e14, zup_n (by omega)]) (fun j => by rw [e14, zup_L]) (by rw [e14, zup_s])
      have v16 : M16.1 61 9 = nI (tn (M.1 1 4) + 1) := by rw [e16, zup_o (by decide), e14, zup_s]
      rw [v16] at e4
      have O4 : ∀ o j, irr o j = false → ¬ (o = 20 ∧ j = 1) → ¬ (o = 19 ∧ j = 11) → (o < 61 ∨ 75 ≤ o) → ¬ (o = 59 ∧ j = 1) → M4.1 o j = M.1 o j := fun o j g1 g2 g3 g4 g5 => by rw [e4, zupL_I, e16, zup_n (by omega), e14, zup_n (by omega), (o12 o (by omega)).1]; exact O3 o j g1 g2 g3
      have L4 : ∀ o j, irr o j = false → (o < 61 ∨ 75 ≤ o) → M4.2 o j = M.2 o j := fun o j g1 g2 => by
        have n18 : o ≠ 18 := fun q => by rw [q] at g1; cases g1
        rw [e4, zupL_n (Or.inl n18), e16, zup_L, e14, zup_L, (o12 o (by omega)).2]; exact L3 o j g1
      have cr4 : cR M4 61 (upd g 4 (nI (tn (M.1 1 4) + 1))) := cR_same (fun o j a1 a2 => ⟨by rw [e4, zupL_I, e16, zup_o (by omega)], by rw [e4, zupL_n (Or.inl (by omega)), e16, zup_L]⟩) (ok_texts okg (isN.of (by omega))) cr14
      have w4 : M4.1 1 = M.1 1 := funext fun j => O4 1 j rfl (by omega) (by omega) (by omega) (by omega)
      refine s_X12_court (b := byF M) hn (by rw [O4 0 9 rfl (by omega) (by omega) (by omega) (by omega)]; exact t2) (fun j hj => by rw [O4 6 j rfl (by omega) (by omega) (by omega) (by omega)]; exact ⟨(h.by hj).2.1, (h.by hj).2.2⟩) w4 hk (fun e' he' => absurd (hg.symm.trans he') (fun z => by cases z)) (fun g' hg' M5 v d1 d2 d3 => ?_)
      have ee : g = g' := Sum.inr.inj (hg.symm.trans hg')
      subst ee
      refine t_X12_court_46 (fun M6 e6 => ⟨fun _ => t_X12_court_59 (s_throws0 (z0B ?_)), fun z => absurd (le0N (by omega)) z⟩)
      have w6 : M6.1 1 = g := by rw [e6, zup_o (by decide)]; exact d1
      rw [n4', w6, g4]
      refine (pk_eq (tn (M.1 1 4)) 12 (fun z => absurd z (by omega)) (fun _ => t_X12_court_83 (s_throws0 (z0A (fun M7 e7 M9 e9 => ?_))))).symm
      rw [n4', w6, g4, nI_1] at e7
      have w9 : M9.1 1 = upd g 4 (nI (tn (M.1 1 4) + 1)) := by rw [e9, zup_o (by decide), e7, zup_row, w6]
      have O9 : ∀ o j, o ≠ 0 → o ≠ 1 → o ≠ 3 → M9.1 o j = M4.1 o j := fun o j g1 g2 g3 => by rw [e9, zup_o g1, e7, zup_o g2, e6, zup_o g1, d2.1 o j g1 g2, us_o g1, zcp_out (Or.inl g3)]
      have L9 : M9.2 = M4.2 := by rw [e9, zup_L, e7, zup_L, e6, zup_L, d2.2.2, us_L, zcp_L]
      have G : ∀ o j, irr o j = false → o ≠ 0 → o ≠ 1 → ¬ (o = 20 ∧ j = 1) → ¬ (o = 19 ∧ j = 11) → (o < 61 ∨ 75 ≤ o) → ¬ (o = 59 ∧ j = 1) → M9.1 o j = M.1 o j ∧ M9.2 o j = M.2 o j := fun o j g1 g2 g3 g4 g5 g6 g7 => by
        have c3 : o ≠ 3 := fun q => by rw [q] at g1; cases g1
        exact ⟨by rw [O9 o j g2 g3 c3]; exact O4 o j g1 g4 g5 g6 g7, by rw [L9]; exact L4 o j g1 g6⟩
      refine ⟨?_, fun _ => ?_, hK _ ?_⟩
      · rw [e9, zup_n (Or.inr (by decide)), e7, zup_o (by decide), e6, zup_n (Or.inr (by decide)), d2.2.1 0 (by decide) (by decide) (by decide)]; rfl
      · rw [L9, e4, n4', w9, pk_us]; exact zupL_s
      · refine h.txt ?_ ?_ ?_ ?_ ?_ ?_ ?_ ?_ ?_ ?_ ?_ ?_ ?_
        · rw [w9]; exact ok_texts okg (isN.of (by omega))
        · rw [w9]
          exact cR_same (fun o j a1 a2 => ⟨O9 o j (by omega) (by omega) (by omega), by rw [L9]⟩) (ok_texts okg (isN.of (by omega))) cr4
        · rw [w9]
          refine lawR_same ?_ (fun j hj => ?_) (G 36 6 rfl (by decide) (by decide) (by omega) (by omega) (by omega) (by omega)).1 (fun i j h1 h2 h3 => (G _ j (irr_far (by omega) (by omega) (by omega)) (by omega) (by omega) (by omega) (by omega) (by omega) (by omega)).1) (fun j _ => (G _ j rfl (by decide) (by decide) (by omega) (by omega) (by omega) (by omega)).1) h.law
          · rw [pk_un (by decide)]; exact fg.2.2
          · rw [pk_un (by omega)]; exact fg.1 _ (by omega)
        · obtain ⟨n', hn', t1', t2', t3'⟩ := h.tape
          refine ⟨0, by omega, ?_, ?_, fun j hj => ?_⟩
          · rw [O9 20 1 (by decide) (by decide) (by decide), e4, zupL_I, e16, zup_o (by decide), e14, zup_o (by decide), (o12 20 (by omega)).1, e3, zup_s]; rfl
          · rw [e9, zup_n (Or.inr (by decide)), e7, zup_o (by decide), e6, zup_n (Or.inr (by decide)), d2.2.1 9 (by decide) (by decide) (by decide)]; rfl
          · rw [(G 21 j rfl (by decide) (by decide) (by omega) (by omega) (by omega) (by omega)).1, (G 6 j rfl (by decide) (by decide) (by omega) (by omega) (by omega) (by omega)).1]
            exact t3' j hj
        · have a : M9.1 0 14 = -1 := by rw [e9, zup_n (Or.inr (by decide)), e7, zup_o (by decide), e6, zup_s]
          rw [a, O9 19 11 (by decide) (by decide) (by decide), e4, zupL_I, e16, zup_o (by decide), e14, zup_o (by decide), (o12 19 (by omega)).1]; exact v3
        · exact (G 19 12 rfl (by decide) (by decide) (by omega) (by omega) (by omega) (by omega)).1
        · rw [e9, zup_n (Or.inr (by decide)), e7, zup_o (by decide), e6, zup_n (Or.inr (by decide)), d2.2.1 6 (by decide) (by decide) (by decide), usM_0 (by decide) (by decide) (by decide) (by decide), zcp_out (Or.inl (by decide))]; exact O4 0 6 rfl (by omega) (by omega) (by omega) (by omega)
        · exact fun j => (G 2 j rfl (by decide) (by decide) (by omega) (by omega) (by omega) (by omega)).1
        · exact fun o j h1 h2 => G o j (irr_hi (by omega)) (by omega) (by omega) (by omega) (by omega) (by omega) (by omega)
        · exact fun o j h1 h2 => (G o j (irr_far (by omega) (by omega) (by omega)) (by omega) (by omega) (by omega) (by omega) (by omega) (by omega)).1
        · rw [e9, zup_s]
        · rw [O9 59 1 (by decide) (by decide) (by decide), e4, zupL_I, e16, zup_s]
        · exact (G 59 2 rfl (by decide) (by decide) (by omega) (by omega) (by omega) (by omega)).1
    · refine s_X12_court (b := byF M) hn (by rw [O3 0 9 rfl (by omega) (by omega)]; exact t2) (fun j hj => by rw [O3 6 j rfl (by omega) (by omega)]; exact ⟨(h.by hj).2.1, (h.by hj).2.2⟩) w3 hk (fun e' he' => absurd (hg.symm.trans he') (fun z => by cases z)) (fun g' hg' M4 v d1 d2 d3 => ?_)
      have ee : g = g' := Sum.inr.inj (hg.symm.trans hg')
      subst ee
      refine t_X12_court_46 (fun M5 e5 => ⟨fun _ => t_X12_court_59 (s_throws0 (z0B ?_)), fun z => absurd (le0N (by omega)) z⟩)
      have w5 : M5.1 1 = g := by rw [e5, zup_o (by decide)]; exact d1
      rw [n4', w5, g4]
      refine (pk_eq (tn (M.1 1 4)) 12 (fun _ => t_X12_court_83 (s_throws1 (z1B (s_court_90 ⟨?_, fun z => absurd z (by decide), hK _ ?_⟩)))) (fun z => absurd (by omega) z)).symm
      · rw [zcp_out (Or.inl (by decide)), zup_s]
      · have x3 : ∀ j, j < 1221 → (zup M5 0 0 2).1 3 j = M.1 1 j := fun j hj => by
          rw [zup_o (by decide), e5, zup_o (by decide), d2.1 3 j (by decide) (by decide), us_o (by decide), zcp_in (by omega) (by omega), w3]
          exact congrArg (M.1 1) (by omega)
        have x0 : ∀ j, irr 0 j = false → j ≠ 9 → j ≠ 14 → (zup M5 0 0 2).1 0 j = M.1 0 j := fun j g1 g2 g3 => by
          have i0 := irr_0 g1
          rw [zup_n (by omega), e5, zup_n (by omega), d2.2.1 j (by omega) (by omega) (by omega), usM_0 (by omega) (by omega) (by omega) (by omega), zcp_out (Or.inl (by decide))]
          exact O3 0 j g1 (by omega) (by omega)
        have xo : ∀ o j, o ≠ 0 → o ≠ 1 → o ≠ 3 → (zup M5 0 0 2).1 o j = M3.1 o j := fun o j g1 g2 g3 => by
          rw [zup_o g1, e5, zup_o g1, d2.1 o j g1 g2, us_o g1, zcp_out (Or.inl g3)]
        have xL : (zup M5 0 0 2).2 = M3.2 := by rw [zup_L, e5, zup_L, d2.2.2, us_L, zcp_L]
        refine h.fail (fun o j g1 g2 g3 g4 g5 g6 => ⟨?_, ?_⟩) ?_ ?_ ?_
        · by_cases co : o = 1
          · subst co
            rw [zcp_in (by omega) (by omega), x3 _ (by omega)]
            exact congrArg (M.1 1) (by omega)
          · rw [zcp_out (Or.inl co)]
            by_cases c0' : o = 0
            · subst c0'
              exact x0 j g1 (by omega) (by omega)
            · have c3 : o ≠ 3 := fun q => by rw [q] at g1; cases g1
              rw [xo o j c0' co c3]
              exact O3 o j g1 g2 g4
        · rw [zcp_L, xL]; exact L3 o j g1
        · rw [zcp_out (Or.inl (by decide)), xo 20 1 (by decide) (by decide) (by decide), e3, zup_s]
        · rw [zcp_out (Or.inl (by decide)), zup_n (Or.inr (by decide)), e5, zup_n (Or.inr (by decide)), d2.2.1 9 (by decide) (by decide) (by decide)]; rfl
        · rw [zcp_out (Or.inl (by decide)), zcp_out (Or.inl (by decide)), xo 19 11 (by decide) (by decide) (by decide), v3, zup_n (Or.inr (by decide)), e5, zup_s]
end OPCOURT
