/-! ===== trial, ahead, pale, heats ===== -/
section OPI
variable {E : zEv} {D : Nat} {px : String → zM → Prop} {M : zM} {K : zM → Prop} {f : zRow}
theorem cb75 {M' M : zM} (h : cb 75 M' M) : zpi M' = zpi M := zpi_of fun o j hi => by
  have k1 : o < 44 ∨ 47 < o := by
    refine Decidable.byContradiction (fun z => ?_)
    have : o = 44 ∨ o = 45 ∨ o = 46 ∨ o = 47 := by omega
    rcases this with rfl | rfl | rfl | rfl <;> cases hi
  have k2 : o < 75 ∨ 75 + 14 ≤ o := by
    refine Decidable.byContradiction (fun z => ?_)
    have : o = 75 ∨ o = 76 ∨ o = 77 ∨ o = 78 ∨ o = 79 ∨ o = 80 ∨ o = 81 ∨ o = 82 ∨ o = 83 ∨ o = 84 ∨ o = 85 ∨ o = 86 ∨ o = 87 ∨ o = 88 := by omega
    rcases this with rfl | rfl | rfl | rfl | rfl | rfl | rfl | rfl | rfl | rfl | rfl | rfl | rfl | rfl <;> cases hi
  have := h o (by rintro rfl; cases hi) (by rintro rfl; cases hi) k1 k2
  exact ⟨by rw [this.1], by rw [this.2]⟩
theorem s_scratch {post : zM → Prop} (h : Rel M) (hp : ∀ M', cR M' 75 (M.1 1) → offC M' M 75 → post M') : zCv E jX3_copy (D + 1) 0 [.ref 75, .ref 61] M post px :=
  s_X3_copy zc75 zc61 (by decide) (fun M' h1 h2 => hp M' (cR_copy h.ok h.now h1) h2)
theorem s_X11_needAhead {post : zM → Prop} {x : Int32} (h0 : zr x 0 60 → post M) (h1 : ¬ zr x 0 60 → px "java/lang/IllegalArgumentException" M) : zCv E jX11_needAhead D 1 [.ref 19, .int x] M post px :=
  e_X11_needAhead ⟨fun z => t_X11_needAhead_10 (h1 (fun q => q.1 z)), fun z => ⟨fun z2 => h0 ⟨z, z2⟩, fun z2 => t_X11_needAhead_10 (h1 (fun q => z2 q.2))⟩⟩
theorem s_X12_noAhead {post : Int32 → zM → Prop} {x : Int32} (h0 : zr x 0 60 → post 0 M) (h1 : ¬ zr x 0 60 → post 1 M) : zCi E jX12_noAhead (D + 1) 0 [.int x] M post px :=
  e_X12_noAhead (s_in_rg (a := 0) (b := 60) (fun z => z1A (t_X12_noAhead_15 ⟨Or.inl rfl, h0 z⟩)) (fun z => z0B (t_X12_noAhead_15 ⟨Or.inr rfl, h1 z⟩)))
noncomputable def redF (f : zRow) : Int32 := mskF (fun w => ¬ f (29 + 5 * w + 3) < 50) (wN f)
theorem s_X8_redOnes {post : Int32 → zM → Prop} {c : Nat} (hc : zIsC c) (hr : cR M c f) (hk : okF f) (hp : post (redF f) M) : zCi E jX8_redOnes D 0 [.ref (c + 1)] M post px := by
  have w5 := hk.w
  have hn : M.1 (c + 1) 6 = nI (wN f) := hr.1.1.trans w5.1
  refine e_X8_redOnes hc (zup_loop (fun i => w_X8_redOnes_4 E D post px c (mskF (fun w => ¬ f (29 + 5 * w + 3) < 50) i) (nI i) M) (wN f) (fun i hi ih => ?_) ?_ 0 (by omega))
  · refine t_X8_redOnes_4 hc (pk_le (wN f) i (fun z => absurd z (by omega)) (fun _ => ⟨pk_in i _ (by omega), ?_⟩) hn)
    rw [nI_clamp (by omega), (hr.2.1 i hi).2.2.2.1]
    refine ⟨fun z => t_X8_redOnes_29 hc ?_, fun z => t_X8_redOnes_29 hc ?_⟩
    · rw [nI_1, msk_n (p := fun w => ¬ f (29 + 5 * w + 3) < 50) (fun q => q z)]; exact ih
    · rw [nI_1, msk_y (p := fun w => ¬ f (29 + 5 * w + 3) < 50) z]; exact ih
  · exact t_X8_redOnes_4 hc (pk_le (wN f) (wN f) (fun _ => hp) (fun z => absurd z (by omega)) hn)
theorem s_X12_redOnes {post : Int32 → zM → Prop} (hf : M.1 1 = f) (hk : okF f) (hp : post (redF f) M) : zCi E jX12_redOnes (D + 2) 0 [.ref 0] M post px := by
  have w5 := hk.w
  refine e_X12_redOnes (zup_loop (fun i => w_X12_redOnes_4 E (D + 1) post px (mskF (fun w => ¬ f (29 + 5 * w + 3) < 50) i) (nI i) M) (wN f) (fun i hi ih => ?_) ?_ 0 (by omega))
  · refine t_X12_redOnes_4 (e_X12_witnesses (pk_le (wN f) i (fun z => absurd z (by omega)) (fun _ => s_X12_of (what := 3) (by omega) ?_) (by rw [hf]; exact w5.1)))
    rw [hf]
    refine ⟨fun z => t_X12_redOnes_31 ?_, fun z => t_X12_redOnes_31 ?_⟩
    · rw [nI_1, msk_0 (p := fun w => ¬ f (29 + 5 * w + 3) < 50) (fun q => q z)]; exact ih
    · rw [nI_1, msk_y (p := fun w => ¬ f (29 + 5 * w + 3) < 50) z]; exact ih
  · exact t_X12_redOnes_4 (e_X12_witnesses (pk_le (wN f) (wN f) (fun _ => hp) (fun z => absurd z (by omega)) (by rw [hf]; exact w5.1)))
theorem op_trial {x y : Int32} (h : Rel M) (hK : ∀ M', Rel M' → K M') : zCWi E jL_trial (D + 20) 1 [.ref 19, .int x, .int y, .ref 18] M (opR E jX12_trial (D + 20) [.ref 0, .int x, .int y] K) := by
  refine e_L_trial (e_X11_trial (s_X11_needAhead (fun c => ?_) (fun c => ⟨rfl, fun px => ?_⟩)))
  · obtain ⟨n, -, hn, rfl⟩ := c.get (by decide) (by decide)
    obtain ⟨sm, ok, lk⟩ := live_all h.ok h.lk n
    refine s_scratch h (fun M3 cr3 b3 => s_X1_live zc75 cr3 h.ok (lawR_cb (by decide) b3.cb h.law) hn (fun M5 cr5 b5 => ?_))
    have e5 : zpi M5 = zpi M := cb75 (b5.trans b3.cb)
    have ref : ∀ v : Int32, (y = 0 → v = redF (liveR (M.1 1) n)) → (¬ y = 0 → v = allF (liveR (M.1 1) n)) → ∀ M4, M4 = zupL M5 18 (0 : Int32).toNatClampNeg v.toInt64 → opR E jX12_trial (D + 20) [.ref 0, .int (nI n), .int y] K 0 M4 := fun v h0 h1 M4 e4 px => by
      rw [n0] at e4
      subst e4
      have e1 := bl_w4 (x := v.toInt64) e5
      refine e_X12_trial (fun M1 em => ?_)
      subst em
      refine s_X12_noAhead (fun _ => s_throws0 (z0A (s_X12_keepsAll (s_X12_goesOn (f := M.1 1) (by rw [kp.of.1.w]; exact e1) h.ok h.lk hn (fun M14 h14 r14 => ?_))))) (fun z => absurd c z)
      have bk := kp.back kp.of r14 (fun j hj => by rw [h14, e1]; exact sm.lo (by omega))
      refine ⟨fun z => s_X12_redOnes h14 ok (t_X12_trial_45 (s_X12_bringsBack ?_)), fun z => s_X12_shadesOfAll h14 ok (t_X12_trial_45 (s_X12_bringsBack ?_))⟩
      · exact ok_fin h hK e5 bk.1.ro (h0 z).symm
      · exact ok_fin h hK e5 bk.1.ro (h1 z).symm
    exact ⟨fun z => s_X8_redOnes zc75 cr5 ok (t_X11_trial_56 (ref _ (fun _ => rfl) (fun q => absurd z q))), fun z => s_X8_allShades zc75 cr5 ok (t_X11_trial_56 (ref _ (fun q => absurd q z) (fun _ => rfl)))⟩
  · exact e_X12_trial (fun M1 e1 => s_X12_noAhead (fun z => absurd z c) (fun _ => s_throws1 (z1B (by rw [e1]; exact bad_end h hK (by decide)))))
/-! ahead, pale -/
noncomputable def flR (f : zRow) : Nat → zRow
  | 0 => f
  | n + 1 => fallR (flR f n)
theorem fl_all (hk : okF f) (hL : lawK f) : ∀ n, smR f (flR f n) ∧ okF (flR f n) ∧ lawK (flR f n)
  | 0 => ⟨smR.refl, hk, hL⟩
  | n + 1 => by
    obtain ⟨h1, h2, h3⟩ := fl_all hk hL n
    exact ⟨h1.trans (fallR_sm h2), fallR_ok h2 h3, lawK_sm (fallR_sm h2) h3⟩
theorem fallF_6 {g : zRow} (h : ∀ j, j ≠ 6 → g j = f j) (w : Nat) : fallF g w = fallF f w := by
  unfold fallF
  have ag : agW f g w := ⟨h _ (by decide), h _ (by decide), h _ (by decide), fun j hj => h _ (by omega), fun k hk => h _ (by omega)⟩
  rw [lsum_ag ag, h 7 (by decide), wt_ag (h 1 (by decide)) (fun t _ => ⟨h _ (by omega), h _ (by omega)⟩)]
theorem fallI_6 {g : zRow} (h : ∀ j, j ≠ 6 → g j = f j) : ∀ (i j : Nat), j ≠ 6 → fallI g i j = fallI f i j
  | 0, j, hj => h j hj
  | i + 1, j, hj => by
    rw [fallI, fallI, fallF_6 h, h (29 + 5 * i + 3) (by omega)]
    by_cases c : j = 29 + 5 * i + 3
    · rw [c, pk_us, pk_us]
    · rw [pk_un c, pk_un c]
      exact fallI_6 h i j hj
theorem calm_fl : ∀ (n j : Nat), j ≠ 6 → calmR f n j = flR f n j
  | 0, _, _ => rfl
  | n + 1, j, hj => by
    have ih := calm_fl n
    rw [calmR, flR, calmS, pk_un hj, fallR, fallR, show wN (calmR f n) = wN (flR f n) by unfold wN; rw [ih 0 (by decide)]]
    exact fallI_6 ih _ j hj
theorem allF_6 {g : zRow} (h : ∀ j, j ≠ 6 → g j = f j) : allF g = allF f := by
  unfold allF
  rw [show wN g = wN f by unfold wN; rw [h 0 (by decide)]]
  exact sumI_cong (fun w _ => h _ (by omega))
theorem op_ahead {x y : Int32} (h : Rel M) (hK : ∀ M', Rel M' → K M') : zCWi E jL_ahead (D + 20) 2 [.ref 19, .int x, .int y, .ref 18] M (opR E jX12_ahead (D + 20) [.ref 0, .int x, .int y] K) := by
  have w5 := h.ok.w
  refine e_L_ahead (e_X11_ahead (s_X11_needWitness h.nW (fun c => ?_) (fun c => Or.inl ⟨rfl, fun px => ?_⟩)))
  · refine s_X11_needAhead (fun c2 => ?_) (fun c2 => Or.inr ⟨rfl, fun px => ?_⟩)
    · obtain ⟨w, hw, rfl⟩ := c.get (by omega)
      obtain ⟨n, -, hn, rfl⟩ := c2.get (by decide) (by decide)
      refine s_scratch h (fun M3 cr3 b3 => ?_)
      refine zup_loop (fun i => ∀ M', cR M' 75 (flR (M.1 1) i) → cb 75 M' M → w_X11_ahead_23 E (D + 18) (fun r3 M1 => ∀ M4 : zM, M4 = zupL M1 18 (0 : Int32).toNatClampNeg r3.toInt64 → opR E jX12_ahead (D + 20) [.ref 0, .int (nI w), .int (nI n)] K 0 M4) (fun X M9 => X = "java/lang/IndexOutOfBoundsException" ∧ opR E jX12_ahead (D + 20) [.ref 0, .int (nI w), .int (nI n)] K 1 M9 ∨ X = "java/lang/IllegalArgumentException" ∧ opR E jX12_ahead (D + 20) [.ref 0, .int (nI w), .int (nI n)] K 2 M9) (nI w) (nI n) (nI i) M') n (fun i hi ih M' cr hb => ?_) (fun M' cr hb => ?_) 0 (by omega) M3 cr3 b3.cb
      · obtain ⟨sm, ok, lk⟩ := fl_all h.ok h.lk i
        refine t_X11_ahead_23 (pk_le n i (fun z => absurd z (by omega)) (fun _ => s_X1_fall zc75 cr ok (sm.law (lawR_cb (by decide) hb h.law)) (fun M6 cr6 b6 => ?_)))
        rw [nI_1]
        exact ih M6 cr6 (b6.trans hb)
      · obtain ⟨sm, ok, lk⟩ := fl_all h.ok h.lk n
        have e5 := cb75 hb
        refine t_X11_ahead_23 (pk_le n n (fun _ => ⟨pk_in w _ (by omega), fun M4 e4 px => ?_⟩) (fun z => absurd z (by omega)))
        have v80 : M'.1 80 w = flR (M.1 1) n (29 + 5 * w + 3) := (cr.2.1 w (by rw [sm.w]; exact hw)).2.2.2.1
        rw [n0, nI_clamp (by omega), v80] at e4
        subst e4
        have e1 := bl_w4 (x := (flR (M.1 1) n (29 + 5 * w + 3)).toInt64) e5
        refine e_X12_ahead (fun M1 em => ?_)
        subst em
        obtain ⟨sm2, ok2, -⟩ := calm_all h.ok h.lk n
        refine s_X12_noWitness (n := wN (M.1 1)) (by rw [e1]; exact w5.1) (by omega) (fun _ => s_throws0 (z0B (s_X12_noAhead (fun _ => s_throws0 (z0A (s_X12_keepsAll (s_X12_goesCalm (f := M.1 1) (by rw [kp.of.1.w]; exact e1) h.ok h.lk hn (fun M14 h14 r14 => s_X12_of (what := 3) (by omega) (s_X12_bringsBack ?_)))))) (fun z => absurd c2 z)))) (fun z => absurd c z)
        have bk := kp.back kp.of r14 (fun j hj => by rw [h14, e1]; exact sm2.lo (by omega))
        exact ok_fin h hK e5 bk.1.ro (by rw [h14]; exact calm_fl _ _ (by omega))
    · exact e_X12_ahead (fun M1 e1 => s_X12_noWitness (n := wN (M.1 1)) (by rw [e1]; exact w5.1) (by omega) (fun _ => s_throws0 (z0B (s_X12_noAhead (fun z => absurd z c2) (fun _ => s_throws1 (z1B (t_X12_ahead_30 (by rw [e1]; exact bad_end h hK (by decide)))))))) (fun z => absurd c z))
  · exact e_X12_ahead (fun M1 e1 => s_X12_noWitness (n := wN (M.1 1)) (by rw [e1]; exact w5.1) (by omega) (fun z => absurd z c) (fun _ => s_throws1 (z1A (t_X12_ahead_30 (by rw [e1]; exact bad_end h hK (by decide))))))
theorem op_pale (h : Rel M) (hK : ∀ M', Rel M' → K M') : zCi E jX11_pale (D + 20) 0 [.ref 19] M (opN E jX12_pale (D + 20) [.ref 0] K) px := by
  generalize hp : (fun k => allF (flR (M.1 1) k) = 0) = p
  have hpi : ∀ k, p k ↔ allF (flR (M.1 1) k) = 0 := fun k => by rw [← hp]
  have ref : ∀ M1, zpi M1 = zpi M → opN E jX12_pale (D + 20) [.ref 0] K (fstI p nI 61) M1 := fun M1 z1 px => by
    refine e_X12_pale (fun M2 e2 => ?_)
    subst e2
    have e1 : (zup M1 0 0 0).1 1 = M.1 1 := by rw [zup_o (by decide)]; exact zpi_w z1
    refine s_X12_keepsAll ?_
    generalize hM0 : zup M1 0 0 0 = M0 at *
    generalize hMk : zcp M0 4 0 1 0 372 = Mk
    have kk : kp Mk M0 := by rw [← hMk]; exact kp.of
    have fin : ∀ (v : Int32) (n : Nat) (M' : zM), M'.1 1 = calmR (M.1 1) n → rq M' Mk → v = fstI p nI 61 → w_X12_pale_49 E (D + 19) (fun b M2 => fstI p nI 61 = b ∧ K M2) px v M' := fun v n M' hm hr hv => t_X12_pale_49 (s_X12_bringsBack (by
      have bk := kp.back kk hr (fun j hj => by rw [hm, e1]; exact (calm_all h.ok h.lk n).1.lo (by omega))
      have := bk.1
      rw [← hM0] at this
      exact n_fin h hK z1 this.ro hv.symm))
    refine zup_loop (fun i => ∀ M', M'.1 1 = calmR (M.1 1) i → rq M' Mk → (∀ k, k < i → ¬ p k) → w_X12_pale_13 E (D + 19) (fun b M2 => fstI p nI 61 = b ∧ K M2) px (-1) (nI i) M') 61 (fun i hi ih M' hm hr hno => ?_) (fun M' hm hr hno => ?_) 0 (by omega) Mk (by rw [kk.1.w]; exact e1) rq.refl (fun k hk => absurd hk (by omega))
    · obtain ⟨sm, ok, lk⟩ := calm_all h.ok h.lk i
      refine t_X12_pale_13 (pk_lt 60 i (fun z => absurd z (by omega)) (fun _ => ⟨fun z => absurd rfl z, fun _ => s_X12_shadesOfAll hm ok ?_⟩))
      rw [allF_6 (calm_fl i)]
      refine ⟨fun z => t_X12_pale_36 (s_X12_calm hm ok lk (fun M3 h3 r3 => ?_)), fun z => t_X12_pale_36 (s_X12_calm hm ok lk (fun M3 h3 r3 => ?_))⟩
      · rw [nI_1]
        refine ih M3 h3 (r3.trans hr) (fun k hk => ?_)
        by_cases ck : k = i
        · rw [ck]; exact fun q => z ((hpi i).mp q)
        · exact hno k (by omega)
      · have hv : nI i = fstI p nI 61 := (fst_at (v := nI) ((hpi i).mpr z) hno hi).symm
        rw [nI_1]
        exact t_X12_pale_13 ⟨fun _ => fin _ (i + 1) M3 h3 (r3.trans hr) hv, fun _ => ⟨fun _ => fin _ (i + 1) M3 h3 (r3.trans hr) hv, fun z => absurd z (nI_m1 (by omega))⟩⟩
    · exact t_X12_pale_13 (pk_lt 60 61 (fun _ => fin _ 61 M' hm hr (fst_no hno).symm) (fun z => absurd z (by omega)))
  refine e_X11_pale (s_scratch h (fun M3 cr3 b3 => ?_))
  refine zup_loop (fun i => ∀ M', cR M' 75 (flR (M.1 1) i) → cb 75 M' M → (∀ k, k < i → ¬ p k) → w_X11_pale_13 E (D + 19) (opN E jX12_pale (D + 20) [.ref 0] K) px (nI i) M') 61 (fun i hi ih M' cr hb hno => ?_) (fun M' cr hb hno => ?_) 0 (by omega) M3 cr3 b3.cb (fun k hk => absurd hk (by omega))
  · obtain ⟨sm, ok, lk⟩ := fl_all h.ok h.lk i
    refine t_X11_pale_13 (pk_lt 60 i (fun z => absurd z (by omega)) (fun _ => s_X8_allShades zc75 cr ok ⟨fun z => s_X1_fall zc75 cr ok (sm.law (lawR_cb (by decide) hb h.law)) (fun M6 cr6 b6 => ?_), fun z => ?_⟩))
    · rw [nI_1]
      refine ih M6 cr6 (b6.trans hb) (fun k hk => ?_)
      by_cases ck : k = i
      · rw [ck]; exact fun q => z ((hpi i).mp q)
      · exact hno k (by omega)
    · rw [← fst_at (v := nI) ((hpi i).mpr z) hno hi]
      exact ref M' (cb75 hb)
  · refine t_X11_pale_13 (pk_lt 60 61 (fun _ => ?_) (fun z => absurd z (by omega)))
    rw [← fst_no (v := nI) hno]
    exact ref M' (cb75 hb)
/-! heats -/
noncomputable def palN (f : zRow) : Int32 := cntI (fun w => ¬ fallF f w < f (29 + 5 * w + 3)) (wN f)
theorem s_X1_wouldBePale {post : Int32 → zM → Prop} {c : Nat} (hc : zIsC c) (hr : cR M c f) (hk : okF f) (hL : lawR M 36 f) (hp : ∀ M', bv M' M → post (palN f) M') : zCi E jX1_wouldBePale (D + 3) 0 [.ref 43, .ref c] M post px := by
  have w5 := hk.w
  have hn : M.1 (c + 1) 6 = nI (wN f) := hr.1.1.trans w5.1
  have hlo := hc.lo
  refine e_X1_wouldBePale hc (zup_loop (fun i => ∀ M', bv M' M → w_X1_wouldBePale_4 E (D + 2) post px c (cntI (fun w => ¬ fallF f w < f (29 + 5 * w + 3)) i) (nI i) M') (wN f) (fun i hi ih M' hb => ?_) (fun M' hb => ?_) 0 (by omega) M bv.refl)
  · have cr := cR_bv hc hb hk hr
    refine t_X1_wouldBePale_4 hc (pk_le (wN f) i (fun z => absurd z (by omega)) (fun _ => ⟨pk_in i _ (by omega), s_X1_fallsBy hc cr hi hk (lawR_bv hb hL) (fun M6 b6 => ?_)⟩) (cr.1.1.trans w5.1))
    have eF : 10 - f 7 + lsumF f 1 i 0 = fallF f i := by unfold fallF; rw [wt_0 hk]
    rw [nI_clamp (by omega), (cr.2.1 i hi).2.2.2.1, eF]
    refine ⟨fun z => t_X1_wouldBePale_36 hc ?_, fun z => t_X1_wouldBePale_36 hc ?_⟩
    · rw [nI_1, cnt_n (p := fun w => ¬ fallF f w < f (29 + 5 * w + 3)) (fun q => q z)]; exact ih M6 (b6.trans hb)
    · rw [nI_1, cnt_y (p := fun w => ¬ fallF f w < f (29 + 5 * w + 3)) z]; exact ih M6 (b6.trans hb)
  · have cr := cR_bv hc hb hk hr
    exact t_X1_wouldBePale_4 hc (pk_le (wN f) (wN f) (fun _ => hp M' hb) (fun z => absurd z (by omega)) (cr.1.1.trans w5.1))
noncomputable def htI (f : zRow) : Nat → Int32 × Int32
  | 0 => (0, -1)
  | h + 1 => if palN (upd f 7 (nI h)) ≤ (htI f h).2 then htI f h else (nI h, palN (upd f 7 (nI h)))
theorem heat_ok (hk : okF f) {h : Nat} (hh : h ≤ 9) : okF (upd f 7 (nI h)) := ok_heat hk (isN.of hh)
theorem op_heats (h : Rel M) (hK : ∀ M', Rel M' → K M') : zCi E jX11_heats (D + 20) 0 [.ref 19] M (opN E jX12_heats (D + 20) [.ref 0] K) px := by
  have w5 := h.ok.w
  have ref : ∀ M1, zpi M1 = zpi M → opN E jX12_heats (D + 20) [.ref 0] K (htI (M.1 1) 10).1 M1 := fun M1 z1 px => by
    refine e_X12_heats (fun M2 e2 => ?_)
    subst e2
    have e1 : (zup M1 0 0 0).1 1 = M.1 1 := by rw [zup_o (by decide)]; exact zpi_w z1
    have e7 : (zup M1 0 0 0).1 1 (7 : Int32).toNatClampNeg = M.1 1 7 := by rw [e1]; rfl
    rw [e7]
    generalize hM0 : zup M1 0 0 0 = M0 at *
    have key := zup_loop (fun i => ∀ M', (∃ v, M'.1 1 = upd (M.1 1) 7 v) → (∀ o, o ≠ 1 → o ≠ 8 → M'.1 o = M0.1 o) → M'.2 = M0.2 → w_X12_heats_20 E (D + 19) (fun b M2 => (htI (M.1 1) 10).1 = b ∧ K M2) px (M.1 1 7) (htI (M.1 1) i).1 (htI (M.1 1) i).2 (nI i) M') 10 (fun i hi ih M' hv hr hr2 => ?_) (fun M' hv hr hr2 => ?_) 0 (by omega) M0 ⟨M.1 1 7, by rw [e1]; exact (fa_upd_same rfl).symm⟩ (fun _ _ _ => rfl) rfl
    · exact key
    · obtain ⟨v, hv⟩ := hv
      refine t_X12_heats_20 (pk_lt 9 i (fun z => absurd z (by omega)) (fun _ M6 e6 => ?_))
      rw [n7] at e6
      have ok := heat_ok h.ok (h := i) (by omega)
      have lk : lawK (upd (M.1 1) 7 (nI i)) := by
        have hl := h.lk
        intro c
        rw [pk_un (by decide)] at c
        obtain ⟨n, n12, en, ex, hl2⟩ := hl c
        refine ⟨n, n12, by rw [pk_un (by decide)]; exact en, ex, fun l hl3 => ?_⟩
        obtain ⟨a1, a2, a3, a4, a5, a6, a7, a8⟩ := hl2 l hl3
        exact ⟨a1, a2, by rw [pk_un (by omega)]; exact a3, by rw [pk_un (by omega)]; exact a4, by rw [pk_un (by omega)]; exact a5, by rw [pk_un (by omega)]; exact a6, fun j h1 h2 => by rw [pk_un (by omega), pk_un (by omega)]; exact a7 j h1 h2, fun z => by
          rw [show (fun j => upd (M.1 1) 7 (nI i) (421 + 2 * j)) = (fun j => M.1 1 (421 + 2 * j)) from funext fun j => pk_un (by omega)]
          exact a8 z⟩
      have r6 : M6.1 1 = upd (M.1 1) 7 (nI i) := by rw [e6, zup_row, hv, fa_upd_twice]
      have wg : wN (upd (M.1 1) 7 (nI i)) = wN (M.1 1) := by unfold wN; rw [pk_un (by decide)]
      have key2 := zup_loop (fun j => ∀ M2, rv M2 M6 → w_X12_heats_42 E (D + 19) (fun b M2 => (htI (M.1 1) 10).1 = b ∧ K M2) px (M.1 1 7) (htI (M.1 1) i).1 (htI (M.1 1) i).2 (nI i) (cntI (fun w => ¬ fallF (upd (M.1 1) 7 (nI i)) w < upd (M.1 1) 7 (nI i) (29 + 5 * w + 3)) j) (nI j) M2) (wN (M.1 1)) (fun j hj ihj M2 r2 => ?_) (fun M2 r2 => ?_) 0 (by omega) M6 rv.refl
      · exact key2
      · have hm : M2.1 1 = upd (M.1 1) 7 (nI i) := by rw [r2.w, r6]
        have e0 : M2.1 1 (0 : Int32).toNatClampNeg = nI (wN (M.1 1)) := by rw [hm]; exact (pk_un (by decide)).trans w5.1
        refine t_X12_heats_42 (e_X12_witnesses (pk_le (wN (M.1 1)) j (fun z => absurd z (by omega)) (fun _ => s_X12_of (what := 3) (by omega) (s_X12_fallsBy (by rw [hm]; exact ok) (by rw [hm]; exact lk) (by omega) (fun M13 r13 => ?_))) e0))
        rw [hm]
        refine ⟨fun z => t_X12_heats_74 ?_, fun z => t_X12_heats_74 ?_⟩
        · rw [nI_1, cnt_0 (p := fun w => ¬ fallF (upd (M.1 1) 7 (nI i)) w < upd (M.1 1) 7 (nI i) (29 + 5 * w + 3)) (fun q => q z)]; exact ihj M13 (r13.trans r2)
        · rw [nI_1, cnt_y (p := fun w => ¬ fallF (upd (M.1 1) 7 (nI i)) w < upd (M.1 1) 7 (nI i) (29 + 5 * w + 3)) z]; exact ihj M13 (r13.trans r2)
      · have hm : M2.1 1 = upd (M.1 1) 7 (nI i) := by rw [r2.w, r6]
        have e0 : M2.1 1 (0 : Int32).toNatClampNeg = nI (wN (M.1 1)) := by rw [hm]; exact (pk_un (by decide)).trans w5.1
        have ep : cntI (fun w => ¬ fallF (upd (M.1 1) 7 (nI i)) w < upd (M.1 1) 7 (nI i) (29 + 5 * w + 3)) (wN (M.1 1)) = palN (upd (M.1 1) 7 (nI i)) := by unfold palN; rw [wg]
        rw [ep]
        have nx : ∀ b m, (b, m) = htI (M.1 1) (i + 1) → w_X12_heats_20 E (D + 19) (fun b M2 => (htI (M.1 1) 10).1 = b ∧ K M2) px (M.1 1 7) b m (nI (i + 1)) M2 := fun b m hbm => by
          have := ih M2 ⟨nI i, hm⟩ (fun o h1 h2 => by rw [r2.1 o h2, e6, zup_o h1]; exact hr o h1 h2) (r2.2.trans (by rw [e6, zup_L]; exact hr2))
          rw [← hbm] at this
          exact this
        refine t_X12_heats_42 (e_X12_witnesses (pk_le (wN (M.1 1)) (wN (M.1 1)) (fun _ => ⟨fun z => t_X12_heats_95 ?_, fun z => t_X12_heats_95 ?_⟩) (fun z => absurd z (by omega)) e0))
        · rw [nI_1, show zmax (htI (M.1 1) i).2 (palN (upd (M.1 1) 7 (nI i))) = (htI (M.1 1) i).2 from if_neg (fun q => by rw [fa_lt] at q; rw [fa_le] at z; omega)]
          exact nx _ _ (by rw [htI, if_pos z])
        · rw [nI_1, show zmax (htI (M.1 1) i).2 (palN (upd (M.1 1) 7 (nI i))) = palN (upd (M.1 1) 7 (nI i)) from if_pos (fa_of_nle z)]
          exact nx _ _ (by rw [htI, if_neg z])
    · obtain ⟨v, hv⟩ := hv
      refine t_X12_heats_20 (pk_lt 9 10 (fun _ M4 e4 => ?_) (fun z => absurd z (by omega)))
      rw [n7] at e4
      have hw : M4.1 1 = M0.1 1 := by rw [e4, zup_row, hv, fa_upd_twice, e1]; exact fa_upd_same rfl
      have : rv M4 M0 := ⟨fun o ho => by
        by_cases c : o = 1
        · rw [c]; exact hw
        · rw [e4, zup_o c]; exact hr o c ho, by rw [e4, zup_L]; exact hr2⟩
      rw [← hM0] at this
      exact n_fin h hK z1 (ro.rv this) rfl
  refine e_X11_heats (s_scratch h (fun M3 cr3 b3 => ?_))
  refine zup_loop (fun i => ∀ M', (∃ v, isN v 9 ∧ cR M' 75 (upd (M.1 1) 7 v)) → cb 75 M' M → w_X11_heats_17 E (D + 19) (opN E jX12_heats (D + 20) [.ref 0] K) px (htI (M.1 1) i).1 (htI (M.1 1) i).2 (nI i) M') 10 (fun i hi ih M' hv hb => ?_) (fun M' hv hb => ?_) 0 (by omega) M3 ⟨M.1 1 7, h.ok.h, by rw [fa_upd_same rfl]; exact cr3⟩ b3.cb
  · obtain ⟨v, hv1, hv⟩ := hv
    refine t_X11_heats_17 (pk_lt 9 i (fun z => absurd z (by omega)) (fun _ M4 e4 => ?_))
    have ok := heat_ok h.ok (h := i) (by omega)
    have cr4 : cR M4 75 (upd (M.1 1) 7 (nI i)) := by
      have := cr_heat (M1 := M4) (v := nI i) (ok_heat h.ok hv1) hv (fun o j h1 h2 h3 => by rw [e4, zup_n (by omega)]) (fun j => by rw [e4]; rfl) (by rw [e4, zup_s])
      rw [fa_upd_twice] at this
      exact this
    have b4 : cb 75 M4 M := by rw [e4]; exact (cb.up (by decide) (by decide)).trans hb
    refine s_X1_wouldBePale zc75 cr4 ok (lawR_same (pk_un (by decide)) (fun j _ => pk_un (by omega)) rfl (fun _ _ _ _ _ => rfl) (fun _ _ => rfl) (lawR_cb (by decide) b4 h.law)) (fun M6 b6 => ?_)
    have nx : ∀ b m, (b, m) = htI (M.1 1) (i + 1) → w_X11_heats_17 E (D + 19) (opN E jX12_heats (D + 20) [.ref 0] K) px b m (nI (i + 1)) M6 := fun b m hbm => by
      have := ih M6 ⟨nI i, isN.of (by omega), cR_bv zc75 b6 ok cr4⟩ (b6.bl.cb.trans b4)
      rw [← hbm] at this
      exact this
    refine ⟨fun z => t_X11_heats_55 ?_, fun z => t_X11_heats_55 ?_⟩
    · rw [nI_1]
      exact nx _ _ (by rw [htI, if_pos z])
    · rw [nI_1]
      exact nx _ _ (by rw [htI, if_neg z])
  · exact t_X11_heats_17 (pk_lt 9 10 (fun _ => ref M' (cb75 hb)) (fun z => absurd z (by omega)))
end OPI
