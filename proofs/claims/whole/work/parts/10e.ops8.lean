/-! ===== say, moments, change ===== -/
section OPH
variable {E : zEv} {D : Nat} {px : String → zM → Prop} {M : zM} {K : zM → Prop} {f : zRow}
theorem rmb_1 {M : zM} {n : Nat} : (rmb M n).1 1 = M.1 1 := funext fun j => by
  unfold rmb
  by_cases c : n = 12
  · rw [if_pos c, zcp_out (Or.inl (by decide)), zcp_out (Or.inl (by decide))]
  · rw [if_neg c, zcp_out (Or.inl (by decide)), zup_o (by decide)]
theorem rmb_00 {M : zM} {n : Nat} : (rmb M n).1 0 0 = M.1 0 0 := by
  unfold rmb
  by_cases c : n = 12
  · rw [if_pos c, zcp_out (Or.inl (by decide)), zcp_out (Or.inl (by decide))]
  · rw [if_neg c, zcp_out (Or.inl (by decide)), zup_n (Or.inr (by decide))]
theorem rmb_L {M : zM} {n : Nat} : (rmb M n).2 = M.2 := by
  unfold rmb
  by_cases c : n = 12
  · rw [if_pos c]; rfl
  · rw [if_neg c]; rfl
/-- an act that lives on -/
theorem act_live {M' M'' M2 : zM} {g : zRow} {x : Int64} {n : Nat} (h : Rel M) (hA : ∀ M1, (∀ o j, irr o j = false → (o < 61 ∨ 75 ≤ o) → M1.1 o j = M'.1 o j ∧ M1.2 o j = M'.2 o j) → actC M M1) (hW : ∀ j, M'.1 0 j = M.1 0 j ∧ M'.1 1 j = M.1 1 j) (hb : cb 61 M'' M') (cr : cR M'' 61 g) (ok : okF g) (hi : ∀ j, 372 ≤ j → g j = M.1 1 j) (h5 : g 5 = M.1 1 5) (hn : n ≤ 12) (h7 : M.1 0 7 = nI n) (h2 : M2.1 1 = g) (r2 : rq M2 (rmb (zup (zupL M'' 18 0 x) 0 0 0) n)) : M2.1 0 0 = 0 ∧ M2.2 18 0 = x ∧ Rel M2 := by
  have g0 : ∀ o j, irr o j = false → (o < 61 ∨ 75 ≤ o) → M''.1 o j = M'.1 o j ∧ M''.2 o j = M'.2 o j := fun o j h1 h3 => by
    have := hb o (by rintro rfl; cases h1) (by rintro rfl; cases h1) (by
      refine Decidable.byContradiction (fun z => ?_)
      have : o = 44 ∨ o = 45 ∨ o = 46 ∨ o = 47 := by omega
      rcases this with rfl | rfl | rfl | rfl <;> cases h1) (by omega)
    exact ⟨by rw [this.1], by rw [this.2]⟩
  have g1 : ∀ o j, irr o j = false → (zup (zupL M'' 18 0 x) 0 0 0).1 o j = M''.1 o j ∧ (zup (zupL M'' 18 0 x) 0 0 0).2 o j = M''.2 o j := fun o j h1 => by
    constructor
    · rw [zup_n (Decidable.or_iff_not_imp_left.mpr (fun z q => ?_)), zupL_I]
      rw [show o = 0 by omega, q] at h1
      cases h1
    · rw [zup_L, zupL_n (Or.inl (by rintro rfl; cases h1))]
  have e7 : (zup (zupL M'' 18 0 x) 0 0 0).1 0 7 = nI n := by
    rw [(g1 0 7 rfl).1, (g0 0 7 rfl (by omega)).1, (hW 7).1]
    exact h7
  have w1 : (zup (zupL M'' 18 0 x) 0 0 0).1 1 = M.1 1 := funext fun j => by rw [(g1 1 j rfl).1, (g0 1 j rfl (by omega)).1, (hW j).2]
  refine ⟨?_, ?_, h.act (M1 := zup (zupL M'' 18 0 x) 0 0 0) (hA _ (fun o j h1 h3 => ⟨(g1 o j h1).1.trans (g0 o j h1 h3).1, (g1 o j h1).2.trans (g0 o j h1 h3).2⟩)) (fun n' hn' h7' => ?_) (by rw [h2]; exact ok) ?_ (by rw [h2]; exact h5)⟩
  · rw [r2.1 0 (by decide) (by decide) (by decide) (by decide), rmb_00, zup_s]
  · rw [r2.2, rmb_L, zup_L, zupL_s]
  · rw [show n' = n from (nI_eq (by omega) (by omega)).mp (h7'.symm.trans h7)]
    refine rmb_F hn e7 (fun o j h1 h3 => ?_)
    by_cases c : o = 1
    · subst c
      rw [h2, rmb_1, w1, hi j (by omega), r2.2]
      exact ⟨rfl, rfl⟩
    · rw [r2.1 o c (by rintro rfl; cases h1) (by rintro rfl; cases h1) (by rintro rfl; cases h1), r2.2]
      exact ⟨rfl, rfl⟩
  · rw [h2]
    exact cR_same (fun o j h1 h3 => g1 o j (irr_now (by omega) (by omega))) ok cr
theorem op_say {x : Int32} (h : Rel M) (hK : ∀ M', Rel M' → K M') : zCWi E jL_say (D + 20) 1 [.ref 19, .int x, .ref 18] M (opR E jX12_say (D + 20) [.ref 0, .int x] K) := by
  obtain ⟨n, hn, h7⟩ := h.rem
  have q8 := h.ok.q
  refine e_L_say (e_X11_say (s_X11_needQuestion h.nQ (fun c => ?_) (fun c => ⟨rfl, fun px => ?_⟩)))
  · obtain ⟨q, hq, rfl⟩ := c.get (by omega)
    refine s_remember h (fun M' hA hS hW => ?_)
    have cr : cR M' 61 (M.1 1) := cR_same (fun o j h1 h2 => hS o j h1 (by omega)) h.ok h.now
    have aC := hA M' (fun _ _ _ _ => ⟨rfl, rfl⟩)
    obtain ⟨-, nx, -, -, -, -, -, -, -, -, a9⟩ := aC
    have hz := zc_lo nx
    have hL : lawR M' 36 (M.1 1) := lawR_same rfl (fun _ _ => rfl) (a9 36 6 rfl (by decide) (by omega) (by omega)).1 (fun i j _ _ _ => (a9 _ j (irr_far (by omega) (by omega) (by omega)) (by omega) (by omega) (by omega)).1) (fun j _ => (a9 40 j rfl (by decide) (by omega) (by omega)).1) h.law
    refine s_X1_utter (how := 0) zc61 cr h.ok hL hq (by decide) (fun M5 cr5 b5 M4 e4 px => ?_)
    rw [n0] at e4
    subst e4
    have hw : ∀ j, (zup (zupL M5 18 0 (mskF (fun w => ¬ riseF (M.1 1) (sdF (M.1 1) q) w = 0) (wN (M.1 1))).toInt64) 0 0 0).1 1 j = M.1 1 j := fun j => by
      rw [zup_o (by decide), zupL_I, (b5 1 (by decide) (by decide) (by omega) (by omega)).1, (hW j).2]
    have e7 : (zup (zupL M5 18 0 (mskF (fun w => ¬ riseF (M.1 1) (sdF (M.1 1) q) w = 0) (wN (M.1 1))).toInt64) 0 0 0).1 0 7 = nI n := by
      rw [zup_n (Or.inr (by decide)), zupL_I, (b5 0 (by decide) (by decide) (by omega) (by omega)).1, (hW 7).1]; exact h7
    refine e_X12_say (fun M1 e1 => ?_)
    subst e1
    refine s_X12_noQuestion (n := qN (M.1 1)) (by rw [hw]; exact q8.1) (by omega) (fun _ => s_throws0 (z0A (s_X12_remembers hn e7 (s_X12_isSaid (how := 0) (f := M.1 1) (by rw [rmb_1]; exact funext hw) h.ok h.lk (by omega) (fun M2 h2 r2 => ?_))))) (fun z => absurd c z)
    obtain ⟨f1, f2, f3⟩ := act_live h hA hW b5 cr5 (saidR_ok h.ok h.lk) (fun j hj => (saidR_sm h.ok).lo (by omega)) ((saidR_sm h.ok).lo (by omega)) hn h7 h2 r2
    exact ⟨f1, fun _ => f2, hK _ f3⟩
  · exact e_X12_say (fun M1 e1 => s_X12_noQuestion (n := qN (M.1 1)) (by rw [e1]; exact q8.1) (by omega) (fun z => absurd z c) (fun _ => s_throws1 (z1B (by rw [e1]; exact bad_end h hK (by decide)))))
theorem op_moments {x : Int32} (h : Rel M) (hK : ∀ M', Rel M' → K M') : zCWi E jL_moments (D + 20) 1 [.ref 19, .int x, .ref 18] M (opR E jX12_moments (D + 20) [.ref 0, .int x] K) := by
  obtain ⟨n, hn, h7⟩ := h.rem
  by_cases c : zr x 1 60
  · obtain ⟨m, hm1, hm, rfl⟩ := c.get (by decide) (by decide)
    refine e_L_moments (e_X11_moments ⟨fun z => absurd z c.1, fun _ => ⟨fun _ => s_remember h (fun M' hA hS hW => ?_), fun z => absurd c.2 z⟩⟩)
    have cr : cR M' 61 (M.1 1) := cR_same (fun o j h1 h2 => hS o j h1 (by omega)) h.ok h.now
    have aC := hA M' (fun _ _ _ _ => ⟨rfl, rfl⟩)
    obtain ⟨-, nx, -, -, -, -, -, -, -, -, a9⟩ := aC
    have hz := zc_lo nx
    have hL : lawR M' 36 (M.1 1) := lawR_same rfl (fun _ _ => rfl) (a9 36 6 rfl (by decide) (by omega) (by omega)).1 (fun i j _ _ _ => (a9 _ j (irr_far (by omega) (by omega) (by omega)) (by omega) (by omega) (by omega)).1) (fun j _ => (a9 40 j rfl (by decide) (by omega) (by omega)).1) h.law
    refine s_X1_live zc61 cr h.ok hL hm (fun M5 cr5 b5 M4 e4 px => ?_)
    rw [n0] at e4
    subst e4
    have hw : ∀ j, (zup (zupL M5 18 0 (tlkN (M.1 1) m).toInt64) 0 0 0).1 1 j = M.1 1 j := fun j => by
      rw [zup_o (by decide), zupL_I, (b5 1 (by decide) (by decide) (by omega) (by omega)).1, (hW j).2]
    have e7 : (zup (zupL M5 18 0 (tlkN (M.1 1) m).toInt64) 0 0 0).1 0 7 = nI n := by
      rw [zup_n (Or.inr (by decide)), zupL_I, (b5 0 (by decide) (by decide) (by omega) (by omega)).1, (hW 7).1]; exact h7
    obtain ⟨sm, ok, -⟩ := live_all h.ok h.lk m
    refine e_X12_moments (fun M1 e1 => ?_)
    subst e1
    refine s_in_rg (a := 1) (b := 60) (fun _ => z1A (t_X12_moments_21 (s_throws0 (z0A (s_X12_remembers hn e7 (s_X12_goesOn (f := M.1 1) (by rw [rmb_1]; exact funext hw) h.ok h.lk hm (fun M2 h2 r2 => ?_))))))) (fun z => absurd c z)
    obtain ⟨f1, f2, f3⟩ := act_live h hA hW b5 cr5 ok (fun j hj => sm.lo (by omega)) (sm.lo (by omega)) hn h7 h2 r2
    exact ⟨f1, fun _ => f2, hK _ f3⟩
  · have bad : opR E jX12_moments (D + 20) [.ref 0, .int x] K 1 M := fun px => e_X12_moments (fun M1 e1 => s_in_rg (a := 1) (b := 60) (fun z => absurd z c) (fun _ => z0B (t_X12_moments_21 (s_throws1 (z1B (by rw [e1]; exact bad_end h hK (by decide)))))))
    exact e_L_moments (e_X11_moments ⟨fun z => t_X11_moments_11 ⟨rfl, bad⟩, fun z => ⟨fun z2 => absurd ⟨z, z2⟩ c, fun _ => t_X11_moments_11 ⟨rfl, bad⟩⟩⟩)
theorem op_change {x y : Int32} (h : Rel M) (hK : ∀ M', Rel M' → K M') : zCWi E jL_change (D + 20) 3 [.ref 19, .int x, .int y, .ref 18] M (opR E jX12_change (D + 20) [.ref 0, .int x, .int y] K) := by
  obtain ⟨n, hn, h7⟩ := h.rem
  have w5 := h.ok.w
  refine e_L_change (e_X11_change (s_X11_needTwo h.nW (fun c1 c2 c3 => ?_) (fun c => Or.inl ⟨rfl, fun px => ?_⟩) (fun c1 c2 c3 => Or.inr ⟨rfl, fun px => ?_⟩)))
  · obtain ⟨a, ha, rfl⟩ := c1.get (by omega)
    obtain ⟨b, hb, rfl⟩ := c2.get (by omega)
    have hab : a ≠ b := fun z => c3 (by rw [z])
    obtain ⟨pa, la, qa⟩ := h.ok.plE ha
    obtain ⟨pb, lb, qb⟩ := h.ok.plE hb
    have hne : plc (M.1 1) a ≠ plc (M.1 1) b := fun z => hab (by rw [← qa, z, qb])
    have cA0 : M.1 67 a = nI (plc (M.1 1) a) := (h.wit ha).2.2.2.2.1.trans pa
    have cB0 : M.1 67 b = nI (plc (M.1 1) b) := (h.wit hb).2.2.2.2.1.trans pb
    generalize plc (M.1 1) a = A at *
    generalize plc (M.1 1) b = B at *
    refine s_remember h (fun M' hA hS hW => ?_)
    have hin : vp_in (nI a) 5 := pk_in a _ (by omega)
    have hin2 : vp_in (nI b) 5 := pk_in b _ (by omega)
    have cA : M'.1 67 a = nI A := by rw [(hS 67 a (by decide) (by decide)).1]; exact cA0
    have cB : M'.1 67 b = nI B := by rw [(hS 67 b (by decide) (by decide)).1]; exact cB0
    refine e_X8_swap ?_
    rw [nI_clamp (n := a) (by omega), nI_clamp (n := b) (by omega), cA, cB]
    refine ⟨hin, hin2, hin, fun M7 e7 => ⟨hin2, fun M11 e11 => ?_⟩⟩
    have x11 : M11.1 67 a = nI B := by rw [e11, zup_n (Or.inr hab), e7, zup_s]
    rw [x11, nI_clamp (n := B) (by omega)]
    refine ⟨hin, pk_in B _ (by omega), fun M17 e17 => ?_⟩
    have x17 : M17.1 67 b = nI A := by rw [e17, zup_o (by decide), e11, zup_s]
    rw [x17, nI_clamp (n := A) (by omega)]
    refine ⟨hin2, pk_in A _ (by omega), fun M23 e23 => ⟨hin, fun M4 e4 px => ?_⟩⟩
    have x23 : M23.1 67 a = nI B := by rw [e23, zup_o (by decide), e17, zup_o (by decide)]; exact x11
    rw [n0, x23] at e4
    subst e4
    have o23 : ∀ o, o ≠ 67 → o ≠ 68 → M23.1 o = M'.1 o := fun o h1 h2 => by rw [e23, zup_o h2, e17, zup_o h2, e11, zup_o h1, e7, zup_o h1]
    have l23 : M23.2 = M'.2 := by rw [e23, zup_L, e17, zup_L, e11, zup_L, e7, zup_L]
    have cb23 : cb 61 M23 M' := fun o _ _ _ ho => ⟨o23 o (by omega) (by omega), by rw [l23]⟩
    have okg := ok_ch h.ok ha hb hab pa pb la lb hne
    have crg : cR M23 61 (chF (M.1 1) a b A B) := cr_ch h.ok ha hb hab la lb hne h.now (fun o j h1 h2 h3 h4 => by rw [o23 o h3 h4]; exact (hS o j h1 (by omega)).1) (fun j => by rw [l23]; exact (hS _ j (by decide) (by decide)).2) (fun i hi => by
      rw [e23, zup_o (by decide), e17, zup_o (by decide)]
      by_cases i1 : i = a
      · rw [if_pos i1, i1]; exact x11
      · rw [if_neg i1]
        by_cases i2 : i = b
        · rw [if_pos i2, i2, e11, zup_s]
        · rw [if_neg i2, e11, zup_n (Or.inr i2), e7, zup_n (Or.inr i1)]
          exact (hS 67 i (by decide) (by decide)).1) (fun i hi => by
      by_cases i1 : i = A
      · rw [if_pos i1, i1, e23, zup_s]
      · rw [if_neg i1, e23, zup_n (Or.inr i1)]
        by_cases i2 : i = B
        · rw [if_pos i2, i2, e17, zup_s]
        · rw [if_neg i2, e17, zup_n (Or.inr i2), e11, zup_o (by decide), e7, zup_o (by decide)]
          exact (hS 68 i (by decide) (by decide)).1)
    have hw : ∀ j, (zup (zupL M23 18 0 (nI B).toInt64) 0 0 0).1 1 j = M.1 1 j := fun j => by
      rw [zup_o (by decide), zupL_I, o23 1 (by decide) (by decide), (hW j).2]
    have e70 : (zup (zupL M23 18 0 (nI B).toInt64) 0 0 0).1 0 7 = nI n := by
      rw [zup_n (Or.inr (by decide)), zupL_I, o23 0 (by decide) (by decide), (hW 7).1]; exact h7
    refine e_X12_change (s_X12_noTwo (n := wN (M.1 1)) (by rw [zupL_I, o23 1 (by decide) (by decide), (hW 0).2]; exact w5.1) (by omega) (fun _ _ _ => z0A (s_X12_remembers hn e70 ?_)) (fun z => absurd ⟨c1, c2⟩ z) (fun _ _ z => absurd z c3))
    have r1 : (rmb (zup (zupL M23 18 0 (nI B).toInt64) 0 0 0) n).1 1 = M.1 1 := by rw [rmb_1]; exact funext hw
    generalize hM0 : rmb (zup (zupL M23 18 0 (nI B).toInt64) 0 0 0) n = M0 at *
    refine s_X12_of (what := 4) (by omega) (s_X12_at (what := 4) (s_X12_of (what := 4) (by omega) ⟨pk_in _ _ (show 29 + 5 * a + 4 < 2070 by omega), fun M20 e20 => s_X12_at (what := 4) ⟨pk_in _ _ (show 29 + 5 * b + 4 < 2070 by omega), fun M27 e27 => s_X12_of (what := 4) (by omega) ?_⟩⟩))
    rw [nI_clamp (by omega), r1, pb] at e20
    rw [nI_clamp (by omega), r1, pa] at e27
    have k27 : M27.1 1 = upd (upd (M.1 1) (29 + 5 * a + 4) (nI B)) (29 + 5 * b + 4) (nI A) := by rw [e27, zup_row, e20, zup_row, r1]
    have v27 : M27.1 1 (29 + 5 * a + 4) = nI B := by rw [k27, pk_un (by omega), pk_us]
    rw [v27, r1, pa, show (24 : Int32) + nI B = nI (24 + B) from nI_add 24 B, show (24 : Int32) + nI A = nI (24 + A) from nI_add 24 A, nI_clamp (n := 24 + B) (by omega), nI_clamp (n := 24 + A) (by omega)]
    refine ⟨pk_in _ _ (show 24 + B < 2070 by omega), fun M34 e34 => ⟨pk_in _ _ (show 24 + A < 2070 by omega), fun M38 e38 => s_X12_of (what := 4) (by omega) ?_⟩⟩
    have k38 : M38.1 1 = chF (M.1 1) a b A B := by rw [e38, zup_row, e34, zup_row, k27]; rfl
    have v38 : M38.1 1 (29 + 5 * a + 4) = nI B := by rw [k38]; exact ch_pa hab (by omega) (by omega)
    rw [v38]
    have r38 : rq M38 M0 := by rw [e38]; exact rq.up1.trans (by rw [e34]; exact rq.up1.trans (by rw [e27]; exact rq.up1.trans (by rw [e20]; exact rq.up1)))
    rw [← hM0] at r38
    obtain ⟨f1, f2, f3⟩ := act_live h hA hW cb23 crg okg (fun j hj => chF_out (by omega) (by omega) (by omega) (by omega)) (chF_out (by omega) (by omega) (by omega) (by omega)) hn h7 k38 r38
    exact ⟨f1, fun _ => f2, hK _ f3⟩
  · exact e_X12_change (s_X12_noTwo w5.1 (by omega) (fun z1 z2 _ => absurd ⟨z1, z2⟩ c) (fun _ => z1B (bad_end h hK (by decide))) (fun z1 z2 _ => absurd ⟨z1, z2⟩ c))
  · exact e_X12_change (s_X12_noTwo w5.1 (by omega) (fun _ _ z => absurd c3 z) (fun z => absurd ⟨c1, c2⟩ z) (fun _ _ _ => z1B (bad_end h hK (by decide))))
end OPH
