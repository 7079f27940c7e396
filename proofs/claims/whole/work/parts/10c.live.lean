/-! ===== a question said, false blushes, a moment ===== -/
noncomputable def saidI (f : zRow) (r : Nat → Int32) (how q : Int32) : Nat → zRow
  | 0 => f
  | i + 1 => if r i = 0 then saidI f r how q i else toldR (upd (saidI f r how q i) (29 + 5 * i + 3) (zmin 99 (saidI f r how q i (29 + 5 * i + 3) + r i))) (nI i) how q (r i)
noncomputable def blI (f : zRow) : Nat → zRow
  | 0 => f
  | i + 1 => if zrem (drawV (blI f i)) 100 < blI f i 8 then toldR (upd (drawR (blI f i)) (29 + 5 * i + 3) (zmin 99 (blI f i (29 + 5 * i + 3) + 20))) (nI i) 2 (-1) 20 else drawR (blI f i)
noncomputable def saidR (f : zRow) (how : Int32) (q : Nat) : zRow := saidI f (fun v => riseF f (sdF f q) v) how (nI q) (wN f)
def tlkF (g : zRow) : Prop := ¬ g 9 ≤ zrem (drawV g) 100 ∧ ¬ g 2 ≤ 0
def qdF (g : zRow) : Nat := tn (zrem (drawV (drawR g)) (g 2))
noncomputable def mid1 (g : zRow) : zRow := @ite _ (tlkF g) (Classical.propDecidable _) (saidR (drawR (drawR g)) 1 (qdF g)) (drawR g)
noncomputable def mid2 (g : zRow) : zRow := blI (mid1 g) (wN g)
noncomputable def momR (f : zRow) : zRow := upd (mid2 (fallR f)) 6 (zmin 9999 (mid2 (fallR f) 6 + 1))
noncomputable def liveR (f : zRow) : Nat → zRow
  | 0 => f
  | n + 1 => momR (liveR f n)
section LV
variable {f : zRow}
theorem sh_N {g : zRow} (hk : okF g) {i : Nat} (hi : i < wN g) {x : Int32} {b : Nat} (hx : isN x b) (hb : b < 2 ^ 30) : isN (zmin 99 (g (29 + 5 * i + 3) + x)) 99 := isN_min (isN_add (hk.2.1 i hi).2.2.2.1 hx) (by omega) (by decide)
theorem drawR_sm : smR f (drawR f) := smR.up (Or.inr (Or.inr (Or.inl rfl)))
theorem drawR_ok (hk : okF f) : okF (drawR f) := ok_seed hk
theorem saidI_sm {r : Nat → Int32} {how q : Int32} : ∀ {i : Nat}, i ≤ 5 → smR f (saidI f r how q i)
  | 0, _ => smR.refl
  | i + 1, h => by
    have ih := saidI_sm (r := r) (how := how) (q := q) (i := i) (by omega)
    rw [saidI]
    by_cases c : r i = 0
    · rw [if_pos c]; exact ih
    · rw [if_neg c]; exact (ih.trans (smR.up (chg_sh (by omega)))).trans told_sm
theorem saidI_ok {r : Nat → Int32} {how q : Int32} (hk : okF f) (hr : ∀ v, v < wN f → isN (r v) 5049) : ∀ {i : Nat}, i ≤ wN f → okF (saidI f r how q i)
  | 0, _ => hk
  | i + 1, h => by
    have w5 := hk.w.2
    have ih := saidI_ok (r := r) (how := how) (q := q) hk hr (i := i) (by omega)
    have sm := saidI_sm (f := f) (r := r) (how := how) (q := q) (i := i) (by omega)
    rw [saidI]
    by_cases c : r i = 0
    · rw [if_pos c]; exact ih
    · rw [if_neg c]
      have hi2 : i < wN (saidI f r how q i) := by rw [sm.w]; omega
      exact told_ok (ok_shade ih hi2 (sh_N ih hi2 (hr i (by omega)) (by decide)))
theorem saidR_sm (hk : okF f) {how : Int32} {q : Nat} : smR f (saidR f how q) := saidI_sm hk.w.2
theorem saidR_ok (hk : okF f) (hL : lawK f) {how : Int32} {q : Nat} : okF (saidR f how q) := saidI_ok hk (fun v hv => rise_N hk hL hv _) (Nat.le_refl _)
theorem blI_sm : ∀ {i : Nat}, i ≤ 5 → smR f (blI f i)
  | 0, _ => smR.refl
  | i + 1, h => by
    have ih := blI_sm (i := i) (by omega)
    rw [blI]
    by_cases c : zrem (drawV (blI f i)) 100 < blI f i 8
    · rw [if_pos c]; exact ((ih.trans drawR_sm).trans (smR.up (chg_sh (by omega)))).trans told_sm
    · rw [if_neg c]; exact ih.trans drawR_sm
theorem blI_ok (hk : okF f) : ∀ {i : Nat}, i ≤ wN f → okF (blI f i)
  | 0, _ => hk
  | i + 1, h => by
    have w5 := hk.w.2
    have ih := blI_ok hk (i := i) (by omega)
    have sm := (blI_sm (f := f) (i := i) (by omega)).trans drawR_sm
    have ok2 := drawR_ok ih
    rw [blI]
    by_cases c : zrem (drawV (blI f i)) 100 < blI f i 8
    · rw [if_pos c]
      have hi2 : i < wN (drawR (blI f i)) := by rw [sm.w]; omega
      refine told_ok (ok_shade ok2 hi2 ?_)
      have := sh_N ok2 hi2 (x := 20) (b := 20) ⟨20, by decide, rfl⟩ (by decide)
      rw [show drawR (blI f i) (29 + 5 * i + 3) = blI f i (29 + 5 * i + 3) from pk_un (by omega)] at this
      exact this
    · rw [if_neg c]; exact ok2
theorem tlk_q {g : zRow} (hk : okF g) (h : ¬ g 2 ≤ 0) : 0 < qN g := by
  have := hk.q
  refine Nat.pos_of_ne_zero (fun z => h ?_)
  rw [this.1, z]
  decide
theorem qd_lt {g : zRow} (hk : okF g) (h : ¬ g 2 ≤ 0) : zrem (drawV (drawR g)) (g 2) = nI (qdF g) ∧ qdF g < qN g := by
  have q0 := tlk_q hk h
  have q8 := hk.q
  have := rem_N (d := qN g) (drawV_N (drawR g)) (by decide) q0 (by omega)
  rw [← q8.1] at this
  obtain ⟨n, hn, e⟩ := this
  unfold qdF
  rw [e, tn_nI (by omega)]
  exact ⟨rfl, by omega⟩
theorem mid1_sm (hk : okF f) : smR f (mid1 f) := by
  unfold mid1
  by_cases c : tlkF f
  · rw [if_pos c]; exact (drawR_sm.trans drawR_sm).trans (saidR_sm (drawR_ok (drawR_ok hk)))
  · rw [if_neg c]; exact drawR_sm
theorem mid1_ok (hk : okF f) (hL : lawK f) : okF (mid1 f) := by
  unfold mid1
  by_cases c : tlkF f
  · rw [if_pos c]; exact saidR_ok (drawR_ok (drawR_ok hk)) (lawK_sm (drawR_sm.trans drawR_sm) hL)
  · rw [if_neg c]; exact drawR_ok hk
theorem mid2_sm (hk : okF f) : smR f (mid2 f) := (mid1_sm hk).trans (blI_sm hk.w.2)
theorem mid2_ok (hk : okF f) (hL : lawK f) : okF (mid2 f) := blI_ok (mid1_ok hk hL) (by rw [(mid1_sm hk).w]; exact Nat.le_refl _)
theorem mom_N {g : zRow} (hk : okF g) : isN (zmin 9999 (g 6 + 1)) 9999 := isN_min (isN_add hk.1.2.2.2.2.2.2.1 ⟨1, Nat.le_refl 1, rfl⟩) (by decide) (by decide)
theorem momR_sm (hk : okF f) (hL : lawK f) : smR f (momR f) := ((fallR_sm hk).trans (mid2_sm (fallR_ok hk hL))).trans (smR.up (Or.inl rfl))
theorem momR_ok (hk : okF f) (hL : lawK f) : okF (momR f) := ok_moment (mid2_ok (fallR_ok hk hL) (lawK_sm (fallR_sm hk) hL)) (mom_N (mid2_ok (fallR_ok hk hL) (lawK_sm (fallR_sm hk) hL)))
theorem live_all (hk : okF f) (hL : lawK f) : ∀ n, smR f (liveR f n) ∧ okF (liveR f n) ∧ lawK (liveR f n)
  | 0 => ⟨smR.refl, hk, hL⟩
  | n + 1 => by
    obtain ⟨h1, h2, h3⟩ := live_all hk hL n
    have := momR_sm h2 h3
    exact ⟨h1.trans this, momR_ok h2 h3, lawK_sm this h3⟩
end LV
section LIVEC
variable {E : zEv} {D : Nat} {px : String → zM → Prop} {M : zM} {f : zRow}
theorem offC.refl {M : zM} {c : Nat} : offC M M c := fun _ _ => ⟨rfl, rfl⟩
theorem offC.trans {M1 M2 M3 : zM} {c : Nat} (h : offC M1 M2 c) (h2 : offC M2 M3 c) : offC M1 M3 c := fun o ho => ⟨(h o ho).1.trans (h2 o ho).1, (h o ho).2.trans (h2 o ho).2⟩
theorem offC.up {c o j : Nat} {M : zM} {v : Int32} (h : c ≤ o) (h2 : o < c + 14) : offC (zup M o j v) M c := fun _ _ => ⟨zup_o (by omega), rfl⟩
theorem offC.cb {M' M : zM} {c : Nat} (h : offC M' M c) : cb c M' M := fun o _ _ _ ho => h o ho
theorem s_X3_draw {post : Int32 → zM → Prop} {c : Nat} (hc : zIsC c) (hr : cR M c f) (hk : okF f) (hp : ∀ M', cR M' c (drawR f) → offC M' M c → post (drawV f) M') : zCi E jX3_draw D 0 [.ref c] M post px := by
  have hlo := hc.lo
  have e15 : M.1 c 15 = f 11 := hr.1.2.2.2.2.2.2.2.2.2.2
  refine e_X3_draw hc (fun M1 e1 => ?_)
  rw [e15] at e1
  have v1 : M1.1 c 15 = 1103515245 * f 11 + 12345 := by rw [e1, zup_s]
  rw [v1]
  refine hp M1 ?_ (by rw [e1]; exact offC.up (Nat.le_refl _) (by omega))
  exact cr_seed hk hr (fun o j h1 h2 h3 => by rw [e1, zup_n (by omega)]) (fun j => by rw [e1]; rfl) v1
theorem s_X8_darken {post : zM → Prop} {c w : Nat} {x : Int32} (hc : zIsC c) (hr : cR M c f) (hk : okF f) (hw : w < wN f) (hp : ∀ M', cR M' c (upd f (29 + 5 * w + 3) (zmin 99 (f (29 + 5 * w + 3) + x))) → offC M' M c → post M') : zCv E jX8_darken D 0 [.ref (c + 1), .int (nI w), .int x] M post px := by
  have w5 := hk.w.2
  have hin : vp_in (nI w) 5 := pk_in w _ (by omega)
  refine e_X8_darken hc ⟨hin, hin, fun M5 e5 => ?_⟩
  rw [nI_clamp (by omega), (hr.2.1 w hw).2.2.2.1] at e5
  refine hp M5 ?_ (by rw [e5]; exact offC.up (by omega) (by omega))
  exact cr_shade hk hw hr (fun o j h1 h2 h3 => by rw [e5, zup_n (by omega)]) (fun j => by rw [e5]; rfl) (by rw [e5, zup_s])
theorem s_X1_utter {post : Int32 → zM → Prop} {c q how : Nat} (hc : zIsC c) (hr : cR M c f) (hk : okF f) (hL : lawR M 36 f) (hq : q < qN f) (hh : how ≤ 2) (hp : ∀ M', cR M' c (saidR f (nI how) q) → cb c M' M → post (mskF (fun w => ¬ riseF f (sdF f q) w = 0) (wN f)) M') : zCi E jX1_utter (D + 4) 0 [.ref 43, .ref c, .int (nI q), .int (nI how)] M post px := by
  have w5 := hk.w
  have q8 := hk.q.2
  have hlo := hc.lo
  refine e_X1_utter hc (s_X1_raise hc hr hk hL hq (fun M1 h1 b1 => ?_))
  rw [hr.1.2.2.2.2.2.1] at h1
  generalize hR : (fun v => riseF f (sdF f q) v) = r
  have h47 : ∀ v, v < wN f → M1.1 47 v = r v := fun v hv => by rw [(h1 v hv).2.2, ← hR]
  have rN : ∀ v, v < wN f → isN (r v) 5049 := fun v hv => by rw [← hR]; exact rise_N hk hL.k hv _
  have hsaid : saidR f (nI how) q = saidI f r (nI how) (nI q) (wN f) := by unfold saidR; rw [hR]
  have hmsk : mskF (fun w => ¬ riseF f (sdF f q) w = 0) (wN f) = mskF (fun w => ¬ r w = 0) (wN f) := by rw [← hR]
  rw [hsaid, hmsk] at hp
  have cr1 := cR_bl hc b1 hk hr
  refine zup_loop (fun i => ∀ M', cR M' c (saidI f r (nI how) (nI q) i) → offC M' M1 c → w_X1_utter_16 E (D + 3) post px c (nI q) (nI how) (mskF (fun w => ¬ r w = 0) i) (nI i) M') (wN f) (fun i hi ih M' cr hb => ?_) (fun M' cr hb => ?_) 0 (by omega) M1 cr1 offC.refl
  · have sm := saidI_sm (f := f) (r := r) (how := nI how) (q := nI q) (i := i) (by omega)
    have ok := saidI_ok (how := nI how) (q := nI q) hk rN (i := i) (by omega)
    have hi2 : i < wN (saidI f r (nI how) (nI q) i) := by rw [sm.w]; exact hi
    have cn : M'.1 (c + 1) 6 = nI (wN f) := by rw [cr.1.1, sm.lo (j := 0) (by omega)]; exact w5.1
    have e47 : ∀ M2, offC M2 M' c → M2.1 47 i = r i := fun M2 b2 => by rw [((b2.trans hb) 47 (by omega)).1]; exact h47 i hi
    have hin : vp_in (nI i) 5 := pk_in i _ (by omega)
    obtain ⟨m, hm, em⟩ := rN i hi
    refine t_X1_utter_16 hc (pk_le (wN f) i (fun z => absurd z (by omega)) (fun _ => ⟨hin, ?_⟩) cn)
    rw [nI_clamp (by omega), e47 M' offC.refl]
    refine ⟨fun z => t_X1_utter_85 hc ?_, fun z => ⟨hin, s_X8_darken hc cr ok hi2 (fun M11 cr11 b11 => ⟨hin, ?_⟩)⟩⟩
    · have r0 : r i = 0 := by
        rw [em] at z ⊢
        have := (nI_leI (b := 0) (by omega) (by decide)).mp z
        rw [show m = 0 by omega]; rfl
      rw [nI_1, msk_n (p := fun w => ¬ r w = 0) (fun q => q r0)]
      refine ih M' ?_ hb
      rw [saidI, if_pos r0]; exact cr
    · have r0 : ¬ r i = 0 := fun q => z (by rw [q]; decide)
      have ok11 := ok_shade ok hi2 (sh_N ok hi2 (rN i hi) (by decide))
      have e14 : M11.1 c 14 = upd (saidI f r (nI how) (nI q) i) (29 + 5 * i + 3) (zmin 99 (saidI f r (nI how) (nI q) i (29 + 5 * i + 3) + r i)) 6 := cr11.1.2.2.2.2.2.2.2.2.2.1
      rw [e14, e47 M11 b11]
      have es : saidI f r (nI how) (nI q) (i + 1) = toldR (upd (saidI f r (nI how) (nI q) i) (29 + 5 * i + 3) (zmin 99 (saidI f r (nI how) (nI q) i (29 + 5 * i + 3) + r i))) (nI i) (nI how) (nI q) (r i) := by rw [saidI, if_neg r0]
      generalize upd (saidI f r (nI how) (nI q) i) (29 + 5 * i + 3) (zmin 99 (saidI f r (nI how) (nI q) i (29 + 5 * i + 3) + r i)) = g at *
      rw [em] at es ⊢
      have eq1 : nI q = nI (q + 1) - 1 := (nI_pred q).symm
      rw [eq1] at es ⊢
      refine s_X7_add hc cr11 ok11 (by omega) hh (by omega) (by omega) (fun M15 cr15 b15 => t_X1_utter_85 hc ?_)
      rw [← eq1, nI_1, msk_y (p := fun w => ¬ r w = 0) r0]
      rw [← es, ← eq1] at cr15
      exact ih M15 cr15 (b15.trans (b11.trans hb))
  · have sm := saidI_sm (f := f) (r := r) (how := nI how) (q := nI q) (i := wN f) (by omega)
    have cn : M'.1 (c + 1) 6 = nI (wN f) := by rw [cr.1.1, sm.lo (j := 0) (by omega)]; exact w5.1
    exact t_X1_utter_16 hc (pk_le (wN f) (wN f) (fun _ => hp M' cr (hb.cb.trans b1.cb)) (fun z => absurd z (by omega)) cn)
theorem s_X1_blushFalsely {post : zM → Prop} {c : Nat} (hc : zIsC c) (hr : cR M c f) (hk : okF f) (hp : ∀ M', cR M' c (blI f (wN f)) → offC M' M c → post M') : zCv E jX1_blushFalsely (D + 1) 0 [.ref 43, .ref c] M post px := by
  have w5 := hk.w
  refine e_X1_blushFalsely hc (zup_loop (fun i => ∀ M', cR M' c (blI f i) → offC M' M c → w_X1_blushFalsely_2 E D post px c (nI i) M') (wN f) (fun i hi ih M' cr hb => ?_) (fun M' cr hb => ?_) 0 (by omega) M hr offC.refl)
  · have sm := blI_sm (f := f) (i := i) (by omega)
    have ok := blI_ok hk (i := i) (by omega)
    have ok2 := drawR_ok ok
    have cn : M'.1 (c + 1) 6 = nI (wN f) := by rw [cr.1.1, sm.lo (j := 0) (by omega)]; exact w5.1
    refine t_X1_blushFalsely_2 hc (pk_le (wN f) i (fun z => absurd z (by omega)) (fun _ => s_X3_draw hc cr ok (fun M4 cr4 b4 => ?_)) cn)
    have e12 : M4.1 c 12 = blI f i 8 := cr4.1.2.2.2.2.2.2.2.1.trans (pk_un (by decide))
    rw [e12]
    have hi2 : i < wN (drawR (blI f i)) := by rw [(sm.trans drawR_sm).w]; exact hi
    refine ⟨fun z => t_X1_blushFalsely_53 hc ?_, fun z => s_X8_darken hc cr4 ok2 hi2 (fun M10 cr10 b10 => ?_)⟩
    · rw [nI_1]
      refine ih M4 ?_ (b4.trans hb)
      rw [blI, if_neg (fun q => by rw [fa_lt] at q; rw [fa_le] at z; omega)]
      exact cr4
    · have es : blI f (i + 1) = toldR (upd (drawR (blI f i)) (29 + 5 * i + 3) (zmin 99 (drawR (blI f i) (29 + 5 * i + 3) + 20))) (nI i) 2 (-1) 20 := by
        rw [blI, if_pos (fa_of_nle z), show drawR (blI f i) (29 + 5 * i + 3) = blI f i (29 + 5 * i + 3) from pk_un (by omega)]
      have ok10 := ok_shade ok2 hi2 (sh_N ok2 hi2 (x := 20) (b := 20) ⟨20, by decide, rfl⟩ (by decide))
      have e14 : M10.1 c 14 = upd (drawR (blI f i)) (29 + 5 * i + 3) (zmin 99 (drawR (blI f i) (29 + 5 * i + 3) + 20)) 6 := cr10.1.2.2.2.2.2.2.2.2.2.1
      rw [e14]
      generalize upd (drawR (blI f i)) (29 + 5 * i + 3) (zmin 99 (drawR (blI f i) (29 + 5 * i + 3) + 20)) = g at *
      refine s_X7_add (a := i) (b := 2) (qu := 0) (nn := 20) hc cr10 ok10 (by omega) (by decide) (by decide) (by decide) (fun M12 cr12 b12 => t_X1_blushFalsely_53 hc ?_)
      rw [nI_1]
      refine ih M12 ?_ (b12.trans (b10.trans (b4.trans hb)))
      rw [es]
      exact cr12
  · have sm := blI_sm (f := f) (i := wN f) (by omega)
    have cn : M'.1 (c + 1) 6 = nI (wN f) := by rw [cr.1.1, sm.lo (j := 0) (by omega)]; exact w5.1
    exact t_X1_blushFalsely_2 hc (pk_le (wN f) (wN f) (fun _ => hp M' cr hb) (fun z => absurd z (by omega)) cn)
noncomputable def tlkN (f : zRow) (n : Nat) : Int32 := cntI (fun k => tlkF (fallR (liveR f k))) n
theorem s_X1_live {post : Int32 → zM → Prop} {c n : Nat} (hc : zIsC c) (hr : cR M c f) (hk : okF f) (hL : lawR M 36 f) (hn : n ≤ 60) (hp : ∀ M', cR M' c (liveR f n) → cb c M' M → post (tlkN f n) M') : zCi E jX1_live (D + 5) 0 [.ref 43, .ref c, .int (nI n)] M post px := by
  have hlo := hc.lo
  refine e_X1_live hc (zup_loop (fun i => ∀ M', cR M' c (liveR f i) → cb c M' M → w_X1_live_5 E (D + 4) post px c (nI n) (tlkN f i) (nI i) M') n (fun i hi ih M' cr hb => ?_) (fun M' cr hb => ?_) 0 (by omega) M hr cb.refl)
  · obtain ⟨sm, ok, lk⟩ := live_all hk hL.k i
    refine t_X1_live_5 hc (pk_le n i (fun z => absurd z (by omega)) (fun _ => s_X1_fall hc cr ok (sm.law (lawR_cb hlo hb hL)) (fun M4 cr4 b4 => ?_)))
    have okF4 := fallR_ok ok lk
    have sm4 := sm.trans (fallR_sm ok)
    have lk4 := lawK_sm (fallR_sm ok) lk
    refine s_X3_draw hc cr4 okF4 (fun M6 cr6 b6 => ?_)
    generalize hg : fallR (liveR f i) = g at *
    have e13 : M6.1 c 13 = g 9 := cr6.1.2.2.2.2.2.2.2.2.1.trans (pk_un (by decide))
    have e7 : M6.1 c 7 = g 2 := cr6.1.2.2.1.trans (pk_un (by decide))
    rw [e13, e7]
    have tl : tlkF (fallR (liveR f i)) ↔ tlkF g := by rw [hg]
    have h56 : ∀ v M2, cR M2 c (mid1 g) → cb c M2 M → v = tlkN f (i + 1) → w_X1_live_56 E (D + 4) post px c (nI n) v (nI i) M2 := fun v M2 cr2 b2 hv => by
      have ok2 := mid1_ok okF4 lk4
      refine t_X1_live_56 hc (s_X1_blushFalsely hc cr2 ok2 (fun M7 cr7 b7 M9 e9 => ?_))
      rw [(mid1_sm okF4).w] at cr7
      have cr7' : cR M7 c (mid2 g) := cr7
      have e14 : M7.1 c 14 = mid2 g 6 := cr7'.1.2.2.2.2.2.2.2.2.2.1
      rw [e14] at e9
      rw [nI_1, hv]
      refine ih M9 ?_ (by rw [e9]; exact (offC.up (Nat.le_refl _) (by omega)).cb.trans (b7.cb.trans b2))
      have : liveR f (i + 1) = upd (mid2 g) 6 (zmin 9999 (mid2 g 6 + 1)) := by rw [liveR, momR, hg]
      rw [this]
      exact cr_moment (mid2_ok okF4 lk4) cr7' (fun o j h1 h2 h3 => by rw [e9, zup_n (by omega)]) (fun j => by rw [e9]; rfl) (by rw [e9, zup_s])
    have nt : ¬ tlkF g → w_X1_live_56 E (D + 4) post px c (nI n) (tlkN f i) (nI i) M6 := fun hn' => by
      refine h56 _ M6 ?_ (b6.cb.trans (b4.trans hb)) (cnt_n (p := fun k => tlkF (fallR (liveR f k))) (fun q => hn' (tl.mp q)))
      unfold mid1
      rw [if_neg hn']; exact cr6
    refine ⟨fun z => nt (fun q => q.1 z), fun z => ⟨fun z2 => nt (fun q => q.2 z2), fun z2 => s_X3_draw hc cr6 (drawR_ok okF4) (fun M15 cr15 b15 => ?_)⟩⟩
    have ht : tlkF g := ⟨z, z2⟩
    obtain ⟨eq1, lq⟩ := qd_lt okF4 z2
    have e7' : M15.1 c 7 = g 2 := cr15.1.2.2.1.trans (show drawR (drawR g) 2 = g 2 by unfold drawR; rw [pk_un (by decide), pk_un (by decide)])
    rw [e7', eq1]
    have sm15 := (drawR_sm (f := g)).trans (drawR_sm (f := drawR g))
    have b15' : cb c M15 M := b15.cb.trans (b6.cb.trans (b4.trans hb))
    refine ⟨fun q => z2 (by rw [q]; decide), s_X1_utter (how := 1) hc cr15 (drawR_ok (drawR_ok okF4)) ((sm4.trans sm15).law (lawR_cb hlo b15' hL)) (by rw [sm15.q]; exact lq) (by decide) (fun M20 cr20 b20 => ?_)⟩
    refine h56 _ M20 ?_ (b20.trans b15') (cnt_y (p := fun k => tlkF (fallR (liveR f k))) (tl.mpr ht))
    unfold mid1
    rw [if_pos ht]; exact cr20
  · exact t_X1_live_5 hc (pk_le n n (fun _ => hp M' cr hb) (fun z => absurd z (by omega)))
end LIVEC
