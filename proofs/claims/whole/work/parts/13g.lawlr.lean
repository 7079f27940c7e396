/-! ===== lines of the law, read by the reference ===== -/
def offL (M M0 : zM) : Prop := (∀ o j, o ≠ 0 → ¬ (o = 1 ∧ 1222 ≤ j) → M.1 o j = M0.1 o j) ∧ (∀ j, j ≠ 10 → j ≠ 12 → j ≠ 13 → j ≠ 16 → M.1 0 j = M0.1 0 j) ∧ M.2 = M0.2
theorem offL.refl {M : zM} : offL M M := ⟨fun _ _ _ _ => rfl, fun _ _ _ _ _ => rfl, rfl⟩
theorem offL.rp {M' M M0 : zM} {p q : Nat} (h : offL M M0) (r : rp M' M p q) : offL M' M0 := ⟨fun o j h1 h2 => (r.2.2.1 o j (by omega)).trans (h.1 o j h1 h2), fun j h1 h2 h3 h4 => (r.2.2.1 0 j (by omega)).trans (h.2.1 j h1 h2 h3 h4), r.2.2.2.trans h.2.2⟩
theorem offL.R {M' M M0 : zM} (h : offL M M0) (r : offR M' M) : offL M' M0 := ⟨fun o j h1 h2 => (r.1 o j h1 (by omega)).trans (h.1 o j h1 h2), fun j h1 h2 h3 h4 => (r.2.1 j h1 h2 h3 h4).trans (h.2.1 j h1 h2 h3 h4), r.2.2.trans h.2.2⟩
theorem offL.up {M' M M0 : zM} {j : Nat} {v : Int32} (h : offL M M0) (e : M' = zup M 1 j v) (hj : 1222 ≤ j) : offL M' M0 := by
  subst e
  exact ⟨fun o i h1 h2 => by rw [zup_n (by omega)]; exact h.1 o i h1 h2, fun i h1 h2 h3 h4 => by rw [zup_o (by decide)]; exact h.2.1 i h1 h2 h3 h4, h.2.2⟩
theorem offL.up0 {M' M M0 : zM} {j : Nat} {v : Int32} (h : offL M M0) (e : M' = zup M 0 j v) (hj : j = 10 ∨ j = 13 ∨ j = 16) : offL M' M0 := by
  subst e
  exact ⟨fun o i h1 h2 => by rw [zup_o h1]; exact h.1 o i h1 h2, fun i h1 h2 h3 h4 => by rw [zup_n (by omega)]; exact h.2.1 i h1 h2 h3 h4, h.2.2⟩
theorem tcR.offL {b : Nat → Nat} {n : Nat} {M M0 : zM} (h : tcR M0 b n) (o : offL M M0) : tcR M b n := ⟨h.1, by rw [o.2.1 11 (by decide) (by decide) (by decide) (by decide)]; exact h.2.1, fun j hj => by rw [o.1 6 j (by decide) (by omega)]; exact h.2.2 j hj⟩
/-- the steps and the lines as they lie in the draft -/
def cdR (M : zM) (c : List zSt) : Prop := M.1 0 16 = nI c.length ∧ ∀ i, i < c.length → M.1 1 (1270 + 2 * i) = nI (c.getD i (0, 0)).1 ∧ M.1 1 (1270 + 2 * i + 1) = nI (c.getD i (0, 0)).2
def lnR (M : zM) (ls : List zLt) : Prop := ∀ i, i < ls.length → M.1 1 (1222 + 4 * i) = nI (ls.getD i lnZ).1 ∧ M.1 1 (1222 + 4 * i + 1) = nI (ls.getD i lnZ).2.1 ∧ M.1 1 (1222 + 4 * i + 2) = nI (ls.getD i lnZ).2.2.1 ∧ M.1 1 (1222 + 4 * i + 3) = nI (ls.getD i lnZ).2.2.2
theorem cdR.same {M M' : zM} {c : List zSt} (h : cdR M c) (e1 : M'.1 0 16 = M.1 0 16) (e2 : ∀ j, 1270 ≤ j → M'.1 1 j = M.1 1 j) : cdR M' c := ⟨by rw [e1]; exact h.1, fun i hi => by rw [e2 _ (by omega), e2 _ (by omega)]; exact h.2 i hi⟩
theorem lnR.same {M M' : zM} {ls : List zLt} (h : lnR M ls) (hl : ls.length ≤ 12) (e2 : ∀ j, j < 1222 + 4 * ls.length → M'.1 1 j = M.1 1 j) : lnR M' ls := fun i hi => by rw [e2 _ (by omega), e2 _ (by omega), e2 _ (by omega), e2 _ (by omega)]; exact h i hi
section LINER
variable {b : Nat → Nat} {n : Nat} {E : zEv} {D : Nat} {px : String → zM → Prop} {M M0 : zM} {p q : Nat} {c : List zSt} {ls : List zLt}
/-- the point stands behind the line's first word -/
theorem s_X12_readLawLine {post : Int32 → zM → Prop} (hn : n ≤ 400) (ht : tcR M0 b n) (ho : offL M M0) (hp : M.1 0 10 = nI (wE b n q)) (hq : M.1 0 12 = nI q) (nb : nbl b n q) (hC : cdR M c) (hL : lnR M ls) (hl : ls.length < 12) (hc : c.length ≤ q) (h0 : ∀ e, pLine b n q c = .inl e → ∀ M', M'.1 0 12 = nI e → offL M' M0 → post 0 M') (h1 : ∀ r, pLine b n q c = .inr r → ∀ M' p', M'.1 0 10 = nI p' → p' ≤ n → tb b n p' = r.1 → offL M' M0 → cdR M' r.2.2.2 → lnR M' (ls ++ [(r.2.1, r.2.2.1, c.length, r.2.2.2.length)]) → post 1 M') : zCi E jX12_readLawLine (D + 35) 0 [.ref 0, .int (nI ls.length)] M post px := by
  have qn := nb.1
  have w2 := wE_hi (b := b) qn
  have n1 := nbl_tb (b := b) w2
  have t1 := tb_le (b := b) (n := n) (p := wE b n q)
  have ix : (1222 : Int32) + 4 * nI ls.length = nI (1222 + 4 * ls.length) := by rw [show (4 : Int32) = nI 4 from rfl, pk_mul, show (1222 : Int32) = nI 1222 from rfl, nI_add]
  have e2 : nI (1222 + 4 * ls.length) + 2 = nI (1222 + 4 * ls.length + 2) := nI_add _ 2
  have e3 : nI (1222 + 4 * ls.length) + 3 = nI (1222 + 4 * ls.length + 3) := nI_add _ 3
  refine s_X12_kind (ht.offL ho) hp hq qn ix (t_X12_readLawLine_56 ⟨pk_in (1222 + 4 * ls.length) _ (by omega), fun M3 e => ⟨pk_in (1222 + 4 * ls.length) _ (by omega), ?_⟩⟩)
  rw [nI_clamp (by omega)] at e ⊢
  have v3 : M3.1 1 (1222 + 4 * ls.length) = nuI (pKind b n q) := by rw [e, zup_s]
  have o3 : offL M3 M0 := ho.up e (by omega)
  have x12 : M3.1 0 12 = nI q := by rw [e, zup_o (by decide)]; exact hq
  have x10 : M3.1 0 10 = nI (wE b n q) := by rw [e, zup_o (by decide)]; exact hp
  rw [v3]
  cases hk : pKind b n q with
  | none => exact ⟨fun z => absurd z (by decide), fun _ => h0 q (line_k hk) M3 x12 o3⟩
  | some k =>
    have f := kind_le hk
    refine ⟨fun _ => ?_, fun z => absurd (nI_le (a := 0) (b := k) (Nat.zero_le k) (by omega)) z⟩
    refine s_X12_number (lo := 0) (hi := 99) rfl rfl (by decide) (ht.offL o3) x10 w2 rfl (fun M10 r10 => ?_)
    rw [nI_1, nI_clamp (n := 1222 + 4 * ls.length + 1) (by omega)]
    refine ⟨pk_in (1222 + 4 * ls.length + 1) _ (by omega), fun M15 e15 => ⟨pk_in (1222 + 4 * ls.length + 1) _ (by omega), ?_⟩⟩
    have v15 : M15.1 1 (1222 + 4 * ls.length + 1) = nuI (nuF b n (tb b n (wE b n q)) 0 99) := by rw [e15, zup_s]
    have o15 : offL M15 M0 := (o3.rp r10).up e15 (by omega)
    rw [v15]
    cases hv : nuF b n (tb b n (wE b n q)) 0 99 with
    | none => exact ⟨fun z => absurd z (by decide), fun _ => h0 _ (line_v hk hv) M15 (by rw [e15, zup_o (by decide)]; exact r10.2.1) o15⟩
    | some v =>
      have g := nuF_some hv
      have d2 := dE_hi (b := b) n1.1
      have n2 := nbl_tb (b := b) d2
      have t2 := tb_le (b := b) (n := n) (p := dE b n (tb b n (wE b n q)))
      refine ⟨fun _ => ?_, fun z => absurd (nI_le (a := 0) (b := v) (Nat.zero_le v) (by omega)) z⟩
      rw [e2, nI_clamp (n := 1222 + 4 * ls.length + 2) (by omega)]
      refine ⟨pk_in (1222 + 4 * ls.length + 2) _ (by omega), fun M24 e24 M26 e26 => ?_⟩
      have c15 : M15.1 0 16 = nI c.length := by rw [e15, zup_o (by decide), r10.2.2.1 0 16 (by omega), e, zup_o (by decide)]; exact hC.1
      rw [c15] at e24
      have o26 : offL M26 M0 := (o15.up e24 (by omega)).up0 e26 (by omega)
      have a26 : ∀ j, j ≠ 1222 + 4 * ls.length → j ≠ 1222 + 4 * ls.length + 1 → j ≠ 1222 + 4 * ls.length + 2 → M26.1 1 j = M.1 1 j := fun j g1 g2 g3 => by rw [e26, zup_o (by decide), e24, zup_n (Or.inr g3), e15, zup_n (Or.inr g2), r10.2.2.1 1 j (by omega), e, zup_n (Or.inr g1)]
      have k0 : M26.1 1 (1222 + 4 * ls.length) = nI k := by
        rw [e26, zup_o (by decide), e24, zup_n (Or.inr (by omega)), e15, zup_n (Or.inr (by omega)), r10.2.2.1 1 _ (by omega), v3, hk]; rfl
      have k1 : M26.1 1 (1222 + 4 * ls.length + 1) = nI v := by
        rw [e26, zup_o (by decide), e24, zup_n (Or.inr (by omega)), v15, hv]; rfl
      have k2 : M26.1 1 (1222 + 4 * ls.length + 2) = nI c.length := by rw [e26, zup_o (by decide), e24, zup_s]
      have p26 : M26.1 0 10 = nI (dE b n (tb b n (wE b n q))) := by rw [e26, zup_n (Or.inr (by decide)), e24, zup_o (by decide), e15, zup_o (by decide)]; exact r10.1
      have c26 : M26.1 0 16 = nI c.length := by rw [e26, zup_n (Or.inr (by decide)), e24, zup_o (by decide)]; exact c15
      have C26 : cdR M26 c := hC.same (c26.trans hC.1.symm) (fun j hj => a26 j (by omega) (by omega) (by omega))
      have L26 : lnR M26 ls := hL.same (by omega) (fun j hj => a26 j (by omega) (by omega) (by omega))
      have I26 : lrI n M26 M26 0 (dE b n (tb b n (wE b n q))) c := ⟨p26, d2, by rw [e26, zup_s]; rfl, C26.1, C26.2, offR.refl⟩
      -- the line's end
      have fin : ∀ (M2 : zM) (p2 : Nat) (c2 : List zSt) (q2 : Nat), lrI n M26 M2 0 p2 c2 → tb b n p2 = q2 → pLine b n q c = .inr (q2, k, v, c2) → w_X12_readLawLine_132 E (D + 34) post px (nI (1222 + 4 * ls.length)) M2 := by
        intro M2 p2 c2 q2 hI2 hq2 hP
        refine t_X12_readLawLine_132 ?_
        rw [e3, nI_clamp (n := 1222 + 4 * ls.length + 3) (by omega), hI2.2.2.2.1]
        refine ⟨pk_in (1222 + 4 * ls.length + 3) _ (by omega), fun M4 e4 => ?_⟩
        have a2 : ∀ j, j < 1270 → M2.1 1 j = M26.1 1 j := fun j hj => hI2.2.2.2.2.2.1 1 j (by decide) (by omega)
        refine h1 _ hP M4 p2 (by rw [e4, zup_o (by decide)]; exact hI2.1) hI2.2.1 hq2 ((o26.R hI2.2.2.2.2.2).up e4 (by omega)) ?_ (fun i hi => ?_)
        · refine cdR.same (M := M2) ⟨hI2.2.2.2.1, hI2.2.2.2.2.1⟩ (by rw [e4, zup_o (by decide)]) (fun j hj => by rw [e4, zup_n (Or.inr (by omega))])
        · rw [len_1] at hi
          by_cases ci : i = ls.length
          · rw [ci, getD_r, e4, zup_s, zup_n (Or.inr (by omega)), zup_n (Or.inr (by omega)), zup_n (Or.inr (by omega)), a2 _ (by omega), a2 _ (by omega), a2 _ (by omega)]
            exact ⟨k0, k1, k2, rfl⟩
          · rw [getD_l (by omega), e4, zup_n (Or.inr (by omega)), zup_n (Or.inr (by omega)), zup_n (Or.inr (by omega)), zup_n (Or.inr (by omega)), a2 _ (by omega), a2 _ (by omega), a2 _ (by omega), a2 _ (by omega)]
            exact L26 i (by omega)
      refine s_X12_passes (w := 21) (by decide) (ht.offL o26) p26 d2 rfl (fun y M28 r28 => z1B ?_) (fun y M28 r28 => z0A ?_)
      · obtain ⟨n3, t3⟩ := wd_nx n2 (by decide) y
        refine r_cond hn (g_atom 6) (by omega) (r_atom hn 6 (by decide)) E _ px M26 M28 (wE b n (tb b n (dE b n (tb b n (wE b n q))))) _ c _ (by omega) (ht.offL o26) (I26.rp r28 (wE_hi n2.1)) rfl (by omega) (fun e' he M' b1 b2 => z0B (h0 e' (line_e hk hv y he) M' b1 (o26.R b2))) (fun r hr M' p' b1 b2 => z1A (fin M' p' r.2 r.1 b1 b2 (line_r hk hv y hr)))
      · exact fin M28 _ c _ (I26.rp r28 n2.1) (tb_id n2) (line_n hk hv y)
/-- all lines of the law -/
def lwI (s : Sum Nat (List zLt × List zSt)) : Int32 := match s with | .inr r => nI r.1.length | .inl _ => -1
theorem s_X12_readLaw {post : Int32 → zM → Prop} (h4 : n ≤ 400) (h9 : M.1 0 9 = nI n) (hb : ∀ j, j < 400 → M.1 6 j = sb (b j) ∧ b j < 256) (h0 : ∀ e, pLaw b n = .inl e → ∀ M', M'.1 0 12 = nI e → offL M' (usM M) → post (-1) M') (h1 : ∀ r, pLaw b n = .inr r → ∀ M', offL M' (usM M) → cdR M' r.2 → lnR M' r.1 → post (nI r.1.length) M') : zCi E jX12_readAll (D + 37) 0 [.ref 0, .int 0] M post px := by
  have ht : tcR (usM M) b n := ⟨h4, by rw [us_11]; exact h9, fun j hj => by rw [us_o (by decide)]; exact hb j hj⟩
  refine e_X12_readAll (s_X12_uses (fun M3 e3 => ?_))
  have o3 : offL M3 (usM M) := offL.refl.up0 e3 (by omega)
  have p3 : M3.1 0 10 = nI 0 := by rw [e3, zup_n (Or.inr (by decide))]; rfl
  refine s_X12_blanks (ht.offL o3) p3 (Nat.zero_le n) (fun M5 r5 => ?_)
  have o5 := o3.rp r5
  have t5 := ht.offL o5
  have nb0 := nbl_tb (b := b) (Nat.zero_le n)
  have loop : ∀ (k : Nat) {M' : zM} {p q : Nat} {c : List zSt} {ls : List zLt}, ls.length + k = 12 → c.length ≤ q → M'.1 0 10 = nI p → p ≤ n → tb b n p = q → offL M' (usM M) → cdR M' c → lnR M' ls → (∀ e, pLawL b n k q c ls = .inl e → ∀ M', M'.1 0 12 = nI e → offL M' (usM M) → post (-1) M') → (∀ r, pLawL b n k q c ls = .inr r → ∀ M', offL M' (usM M) → cdR M' r.2 → lnR M' r.1 → post (nI r.1.length) M') → w_X12_readAll_28 E (D + 36) post px 0 (nI ls.length) M' := by
    intro k
    induction k with
    | zero =>
      intro M' p q c ls hk hc hp hpn hq ho hC hL h0 h1
      refine t_X12_readAll_28 (e_X12_readLine (s_X12_letters (ht.offL ho) hp hpn (fun M1 r1 => z0A (t_X12_readLine_16 (pk_le 12 ls.length (fun _ => t_X12_readLine_45 (t_X12_readLine_46 ⟨Or.inl rfl, z0B ?_⟩)) (fun z => absurd z (by omega)))))))
      rw [hq] at r1
      exact h0 q rfl M1 r1.2.1 (ho.rp r1)
    | succ k ih =>
      intro M' p q c ls hk hc hp hpn hq ho hC hL h0 h1
      have nb := nbl_tb (b := b) hpn
      rw [hq] at nb
      refine t_X12_readAll_28 (e_X12_readLine (s_X12_letters (ht.offL ho) hp hpn (fun M1 r1 => z0A (t_X12_readLine_16 (pk_le 12 ls.length (fun z => absurd z (by omega)) (fun _ => z0A ?_))))))
      rw [hq] at r1
      have C1 : cdR M1 c := hC.same (r1.2.2.1 0 16 (by omega)) (fun j hj => r1.2.2.1 1 j (by omega))
      have L1 : lnR M1 ls := hL.same (by omega) (fun j hj => r1.2.2.1 1 j (by omega))
      refine s_X12_readLawLine h4 ht (ho.rp r1) r1.1 r1.2.1 nb C1 L1 (by omega) hc (fun e he M2 b1 b2 => z0A (t_X12_readLine_45 (t_X12_readLine_46 ⟨Or.inl rfl, z0B (h0 e (lawL_e he) M2 b1 b2)⟩))) (fun r hr M2 p2 b1 b2 b3 b4 b5 b6 => z1B (t_X12_readLine_41 (t_X12_readLine_46 ⟨Or.inr rfl, z1A ?_⟩)))
      obtain ⟨a1, a2, a3, a4, s1, a5, a6, a7, a8⟩ := (line_p nb).2 r hr
      have ln : r.2.2.2.length ≤ r.1 := by rw [a5, List.length_append]; omega
      have r4 := a1.1
      have e0 := lawL_r (k := k) (ls := ls) hr
      refine s_X12_blanks (ht.offL b4) b1 b2 (fun M7 r7 => ?_)
      rw [b3] at r7
      have o7 := b4.rp r7
      have C7 : cdR M7 r.2.2.2 := b5.same (r7.2.2.1 0 16 (by omega)) (fun j hj => r7.2.2.1 1 j (by omega))
      have L7 : lnR M7 (ls ++ [(r.2.1, r.2.2.1, c.length, r.2.2.2.length)]) := b6.same (by rw [len_1]; omega) (fun j hj => r7.2.2.1 1 j (by omega))
      have t7 := ht.offL o7
      refine (pk_eq r.1 n (fun y => ?_) (fun y => ?_) r7.1 t7.2.1).symm
      · rw [if_pos y] at e0
        have := h1 _ e0 M7 o7 C7 L7
        rw [nI_1]
        rw [len_1] at this
        exact this
      · rw [if_neg y] at e0
        refine s_X12_isAt (lo := 59) (hi := 59) rfl rfl (by decide) (by decide) (by decide) t7 r7.1 r4 (fun z1 z2 z3 => z1A (fun M18 e18 => ?_)) (fun z => z0B ?_)
        · have s : sgP b n r.1 59 := ⟨z1, by omega⟩
          rw [if_pos s] at e0
          obtain ⟨n1, n2⟩ := sg_nx s
          rw [r7.1, nI_1] at e18
          have C18 : cdR M18 r.2.2.2 := C7.same (by rw [e18, zup_n (Or.inr (by decide))]) (fun j hj => by rw [e18, zup_o (by decide)])
          have L18 : lnR M18 (ls ++ [(r.2.1, r.2.2.1, c.length, r.2.2.2.length)]) := L7.same (by rw [len_1]; omega) (fun j hj => by rw [e18, zup_o (by decide)])
          have := ih (by rw [len_1]; omega) (by omega) (p := r.1 + 1) (by rw [e18, zup_s]) z1 rfl (o7.up0 e18 (by omega)) C18 L18 (fun e he => h0 e (e0.trans he)) (fun r' hr' => h1 r' (e0.trans hr'))
          rw [len_1] at this
          rw [nI_1]
          exact this
        · rw [if_neg (fun a => z ⟨a.1, by omega, by omega⟩)] at e0
          exact h0 _ e0 M7 r7.2.1 o7
  have C5 : cdR M5 [] := ⟨by rw [r5.2.2.1 0 16 (by omega), e3, zup_s]; rfl, fun i hi => absurd hi (Nat.not_lt_zero i)⟩
  have L5 : lnR M5 [] := fun i hi => absurd hi (Nat.not_lt_zero i)
  have nb01 := nb0.1
  refine (pk_eq (tb b n 0) n (fun y => ?_) (fun y => ?_) r5.1 t5.2.1).symm
  · exact h1 ([], []) (if_pos y) M5 o5 C5 L5
  · have e0 : pLaw b n = pLawL b n 12 (tb b n 0) [] [] := if_neg y
    exact loop 12 (ls := []) rfl (Nat.zero_le _) r5.1 nb0.1 (tb_id nb0) o5 C5 L5 (fun e he => h0 e (e0.trans he)) (fun r hr => h1 r (e0.trans hr))
end LINER
