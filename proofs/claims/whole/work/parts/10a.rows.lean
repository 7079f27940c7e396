/-! ===== the living court: what the law's sum depends on; falling ===== -/
def agW (f g : zRow) (v : Nat) : Prop := g 0 = f 0 ∧ g 5 = f 5 ∧ g 7 = f 7 ∧ (∀ j, 372 ≤ j → g j = f j) ∧ (∀ k, k < 5 → g (29 + 5 * v + k) = f (29 + 5 * v + k))
section AG
variable {f g : zRow} {v : Nat}
theorem fact_ag (h : agW f g v) (s n x : Int32) : factF g s n v x = factF f s n v x := by
  unfold factF
  rw [h.2.2.2.2 0 (by decide), h.2.2.2.2 1 (by decide), h.2.2.2.2 2 (by decide), h.2.2.2.2 3 (by decide), h.2.2.2.2 4 (by decide), h.2.2.1, h.1]
theorem run_ag (h : agW f g v) (x : Int32) : ∀ (n i : Nat) (st : List Int32), runV g v x n i st = runV f v x n i st := by
  intro n
  induction n with
  | zero => intro i st; rfl
  | succ n ih =>
    intro i st
    rw [runV, runV, ih, h.2.2.2.1 _ (by omega), h.2.2.2.1 (421 + 2 * i + 1) (by omega)]
    congr 1
    unfold stepV
    rw [fact_ag h]
theorem holds_ag (h : agW f g v) (x : Int32) (l : Nat) : holdsF g v x l ↔ holdsF f v x l := by
  unfold holdsF
  rw [h.2.2.2.1 (373 + 4 * l + 3) (by omega), h.2.2.2.1 (373 + 4 * l + 2) (by omega), run_ag h]
theorem lsum_ag (h : agW f g v) (which x : Int32) : lsumF g which v x = lsumF f which v x := by
  unfold lsumF
  rw [h.2.1, h.2.2.2.1 372 (by omega)]
  by_cases c : f 5 = 1
  · rw [if_pos c, if_pos c]
    refine sumI_cong (fun l _ => ?_)
    by_cases c2 : f (373 + 4 * l) = which ∧ holdsF f v x l
    · rw [lnF_y c2.1 c2.2, lnF_y (by rw [h.2.2.2.1 _ (by omega)]; exact c2.1) ((holds_ag h x l).mpr c2.2), h.2.2.2.1 _ (by omega)]
    · rw [lnF_n c2, lnF_n (fun z => c2 ⟨by rw [← h.2.2.2.1 _ (by omega)]; exact z.1, (holds_ag h x l).mp z.2⟩)]
  · rw [if_neg c, if_neg c]
theorem wt_ag {w : Nat} {said : Int32} (h1 : g 1 = f 1) (h2 : ∀ t, t < tN f → g (54 + 3 * t + 0) = f (54 + 3 * t + 0) ∧ g (54 + 3 * t + 1) = f (54 + 3 * t + 1)) : wtF g w said = wtF f w said := by
  unfold wtF
  rw [show tN g = tN f by unfold tN; rw [h1]]
  refine sumI_cong (fun t ht => ?_)
  unfold wtG
  rw [(h2 t ht).1, (h2 t ht).2]
end AG
/-- what a moment may change -/
def chg (j : Nat) : Prop := j = 6 ∨ j = 10 ∨ j = 11 ∨ (72 ≤ j ∧ j < 372) ∨ (29 ≤ j ∧ j < 54 ∧ (j - 29) % 5 = 3)
def smR (f g : zRow) : Prop := ∀ j, ¬ chg j → g j = f j
theorem smR.refl {f : zRow} : smR f f := fun _ _ => rfl
theorem smR.trans {f g h : zRow} (a : smR f g) (b : smR g h) : smR f h := fun j hj => (b j hj).trans (a j hj)
theorem smR.up {f : zRow} {i : Nat} {v : Int32} (h : chg i) : smR f (upd f i v) := fun j hj => pk_un (fun z => hj (z ▸ h))
theorem chg_sh {w : Nat} (h : w < 5) : chg (29 + 5 * w + 3) := Or.inr (Or.inr (Or.inr (Or.inr ⟨by omega, by omega, by omega⟩)))
theorem smR.lo {f g : zRow} (h : smR f g) {j : Nat} (hj : j < 6 ∨ j = 7 ∨ j = 8 ∨ j = 9 ∨ (12 ≤ j ∧ j < 29) ∨ (54 ≤ j ∧ j < 72) ∨ 372 ≤ j) : g j = f j := h j (by unfold chg; omega)
theorem smR.w {f g : zRow} (h : smR f g) : wN g = wN f := by unfold wN; rw [h.lo (by omega)]
theorem smR.t {f g : zRow} (h : smR f g) : tN g = tN f := by unfold tN; rw [h.lo (by omega)]
theorem smR.q {f g : zRow} (h : smR f g) : qN g = qN f := by unfold qN; rw [h.lo (by omega)]
theorem smR.k {f g : zRow} (h : smR f g) : kN g = kN f := by unfold kN; rw [h.lo (by omega)]
theorem smR.law {f g : zRow} {M : zM} {b : Nat} (h : smR f g) (hL : lawR M b f) : lawR M b g := lawR_same (h.lo (by omega)) (fun j _ => h.lo (by omega)) rfl (fun _ _ _ _ _ => rfl) (fun _ _ => rfl) hL
theorem lawK_sm {f g : zRow} (h : smR f g) (hL : lawK f) : lawK g := fun c => by
  obtain ⟨n, n12, en, ex, hl⟩ := hL (by rw [← h.lo (j := 5) (by omega)]; exact c)
  refine ⟨n, n12, by rw [h.lo (by omega)]; exact en, ex, fun l hl2 => ?_⟩
  obtain ⟨a1, a2, a3, a4, a5, a6, a7, a8⟩ := hl l hl2
  refine ⟨a1, a2, by rw [h.lo (by omega)]; exact a3, by rw [h.lo (by omega)]; exact a4, by rw [h.lo (by omega)]; exact a5, by rw [h.lo (by omega)]; exact a6, fun i h1 h2 => by rw [h.lo (by omega), h.lo (by omega)]; exact a7 i h1 h2, fun z => ?_⟩
  have := a8 z
  rw [show (fun i => g (421 + 2 * i)) = (fun i => f (421 + 2 * i)) from funext fun i => h.lo (by omega)]
  exact this
theorem so_sm {f g : zRow} (h : smR f g) (ht : tN f ≤ 6) : soF g = soF f := by
  unfold soF
  rw [h.t]
  exact orI_cong fun t ht2 => by rw [h.lo (j := 54 + 3 * t + 2) (by omega)]
/-- all fall -/
noncomputable def fallI (f : zRow) : Nat → zRow
  | 0 => f
  | i + 1 => upd (fallI f i) (29 + 5 * i + 3) (zmax 0 (f (29 + 5 * i + 3) - fallF f i))
section FALL
variable {f : zRow}
theorem fallI_out {j : Nat} : ∀ {i : Nat}, (∀ w, w < i → j ≠ 29 + 5 * w + 3) → fallI f i j = f j
  | 0, _ => rfl
  | i + 1, h => by
    rw [fallI, pk_un (h i (by omega))]
    exact fallI_out (fun w hw => h w (by omega))
theorem fallI_sm : ∀ {i : Nat}, i ≤ 5 → smR f (fallI f i)
  | 0, _ => smR.refl
  | i + 1, h => (fallI_sm (by omega)).trans (smR.up (chg_sh (by omega)))
theorem fall_N (hk : okF f) (hL : lawK f) (w : Nat) : isN (fallF f w) 1198 := by
  obtain ⟨h, h1, h2⟩ := hk.h
  unfold fallF
  refine isN_add (a := 10) (b := 1188) ?_ (lsum_N hL _ _ _)
  rw [h2, show (10 : Int32) = nI 10 from rfl, pk_sub (by omega)]
  exact ⟨10 - h, by omega, rfl⟩
theorem fall_v (hk : okF f) (hL : lawK f) {w : Nat} (hw : w < wN f) : isN (zmax 0 (f (29 + 5 * w + 3) - fallF f w)) 99 :=
  isN_maxsub (hk.2.1 w hw).2.2.2.1 (fall_N hk hL w) (by decide) (by decide)
theorem fallI_ok (hk : okF f) (hL : lawK f) : ∀ {i : Nat}, i ≤ wN f → okF (fallI f i)
  | 0, _ => hk
  | i + 1, h => ok_shade (fallI_ok hk hL (by omega)) (by rw [(fallI_sm (f := f) (i := i) (by have := hk.w.2; omega)).w]; omega) (fall_v hk hL (by omega))
/-- what the class takes off a witness while others have fallen -/
theorem fallI_by (hk : okF f) {i : Nat} (hi : i < wN f) : 10 - fallI f i 7 + lsumF (fallI f i) 1 i 0 = fallF f i := by
  have w5 := hk.w.2
  have e : ∀ j, (∀ w, w < i → j ≠ 29 + 5 * w + 3) → fallI f i j = f j := fun j h => fallI_out h
  have ag : agW f (fallI f i) i := ⟨e _ (fun w hw => by omega), e _ (fun w hw => by omega), e _ (fun w hw => by omega), fun j hj => e _ (fun w hw => by omega), fun k hk' => e _ (fun w hw => by omega)⟩
  rw [lsum_ag ag, e 7 (fun w hw => by omega)]
  unfold fallF
  rw [wt_0 hk]
noncomputable def fallR (f : zRow) : zRow := fallI f (wN f)
theorem fallR_sm (hk : okF f) : smR f (fallR f) := fallI_sm hk.w.2
theorem fallR_ok (hk : okF f) (hL : lawK f) : okF (fallR f) := fallI_ok hk hL (Nat.le_refl _)
end FALL
section LIVE
variable {E : zEv} {D : Nat} {px : String → zM → Prop} {M : zM} {f : zRow}
/-- nothing but the court at c and the blush's rows has changed -/
def cb (c : Nat) (M' M : zM) : Prop := ∀ o, o ≠ 41 → o ≠ 42 → (o < 44 ∨ 47 < o) → (o < c ∨ c + 14 ≤ o) → M'.1 o = M.1 o ∧ M'.2 o = M.2 o
theorem cb.refl {c : Nat} {M : zM} : cb c M M := fun _ _ _ _ _ => ⟨rfl, rfl⟩
theorem cb.trans {c : Nat} {M1 M2 M3 : zM} (h : cb c M1 M2) (h2 : cb c M2 M3) : cb c M1 M3 := fun o a b d e => ⟨(h o a b d e).1.trans (h2 o a b d e).1, (h o a b d e).2.trans (h2 o a b d e).2⟩
theorem bl.cb {c : Nat} {M' M : zM} (h : bl M' M) : cb c M' M := fun o a b d _ => ⟨h.1 o a b d, by rw [h.2]⟩
theorem cb.up {c o j : Nat} {M : zM} {v : Int32} (h : c ≤ o) (h2 : o < c + 14) : cb c (zup M o j v) M := fun _ _ _ _ _ => ⟨zup_o (by omega), rfl⟩
theorem cb.upL {c o j : Nat} {M : zM} {v : Int64} (h : c ≤ o) (h2 : o < c + 14) : cb c (zupL M o j v) M := fun _ _ _ _ _ => ⟨rfl, zupL_o (by omega)⟩
theorem lawR_cb {c : Nat} {M M' : zM} (hc : 61 ≤ c) (h : cb c M' M) (hr : lawR M 36 f) : lawR M' 36 f :=
  lawR_same rfl (fun _ _ => rfl) (by rw [(h 36 (by decide) (by decide) (by omega) (by omega)).1]) (fun i j _ _ _ => by rw [(h _ (by omega) (by omega) (by omega) (by omega)).1]) (fun j _ => by rw [(h _ (by omega) (by omega) (by omega) (by omega)).1]) hr
theorem s_X1_fall {post : zM → Prop} {c : Nat} (hc : zIsC c) (hr : cR M c f) (hk : okF f) (hL : lawR M 36 f) (hp : ∀ M', cR M' c (fallR f) → cb c M' M → post M') : zCv E jX1_fall (D + 3) 0 [.ref 43, .ref c] M post px := by
  have w5 := hk.w
  have hlo := hc.lo
  refine e_X1_fall hc (zup_loop (fun i => ∀ M', cR M' c (fallI f i) → cb c M' M → w_X1_fall_7 E (D + 2) post px c (nI i) M') (wN f) (fun i hi ih M' cr hb => ?_) (fun M' cr hb => ?_) 0 (by omega) M hr cb.refl)
  · have sm := fallI_sm (f := f) (i := i) (by omega)
    have ok := fallI_ok hk hL.k (i := i) (by omega)
    have hi2 : i < wN (fallI f i) := by rw [sm.w]; exact hi
    have cn : M'.1 (c + 1) 6 = nI (wN f) := by rw [cr.1.1, sm.lo (by omega)]; exact w5.1
    have hin : vp_in (nI i) 5 := pk_in i _ (by omega)
    refine t_X1_fall_7 hc (pk_le (wN f) i (fun z => absurd z (by omega)) (fun _ => ⟨hin, s_X1_fallsBy hc cr hi2 ok (sm.law (lawR_cb hlo hb hL)) (fun M6 b6 => ⟨hin, fun M11 e11 => ?_⟩)⟩) cn)
    rw [nI_clamp (by omega), (cr.2.1 i hi2).2.2.2.1, fallI_out (j := 29 + 5 * i + 3) (fun w hw => by omega), fallI_by hk hi] at e11
    have cr6 := cR_bv hc b6 ok cr
    rw [nI_1]
    refine ih M11 ?_ (by rw [e11]; exact (cb.up (by omega) (by omega)).trans (b6.bl.cb.trans hb))
    refine cr_shade ok hi2 cr6 (fun o j h1 h2 h3 => by rw [e11, zup_n (by omega)]) (fun j => by rw [e11]; rfl) (by rw [e11, zup_s])
  · have sm := fallI_sm (f := f) (i := wN f) (by omega)
    have cn : M'.1 (c + 1) 6 = nI (wN f) := by rw [cr.1.1, sm.lo (by omega)]; exact w5.1
    exact t_X1_fall_7 hc (pk_le (wN f) (wN f) (fun _ => hp M' cr hb) (fun z => absurd z (by omega)) cn)
/-- nothing but the world and scratch rows has changed -/
def rq (M' M : zM) : Prop := (∀ o, o ≠ 1 → o ≠ 8 → o ≠ 9 → o ≠ 10 → M'.1 o = M.1 o) ∧ M'.2 = M.2
theorem rq.refl {M : zM} : rq M M := ⟨fun _ _ _ _ _ => rfl, rfl⟩
theorem rq.trans {M1 M2 M3 : zM} (h : rq M1 M2) (h2 : rq M2 M3) : rq M1 M3 := ⟨fun o a b c d => (h.1 o a b c d).trans (h2.1 o a b c d), h.2.trans h2.2⟩
theorem rk.rq {M' M : zM} (h : rk M' M) : rq M' M := ⟨fun o _ b c _ => h.1 o b c, h.2⟩
theorem rq.up1 {M : zM} {j : Nat} {v : Int32} : rq (zup M 1 j v) M := ⟨fun _ ho _ _ _ => zup_o ho, rfl⟩
theorem rq.up10 {M : zM} {j : Nat} {v : Int32} : rq (zup M 10 j v) M := ⟨fun _ _ _ _ ho => zup_o ho, rfl⟩
theorem s_X12_allFall {post : zM → Prop} (hf : M.1 1 = f) (hk : okF f) (hL : lawK f) (hp : ∀ M', M'.1 1 = fallR f → rq M' M → post M') : zCv E jX12_allFall (D + 7) 0 [.ref 0] M post px := by
  have w5 := hk.w
  have loop2 : ∀ M0, M0.1 1 = f → rq M0 M → (∀ w, w < wN f → M0.1 10 w = fallF f w) → w_X12_allFall_29 E (D + 6) post px 0 M0 := fun M0 hf0 hr0 h10 => by
    refine zup_loop (fun i => ∀ M', M'.1 1 = fallI f i → rq M' M → (∀ w, w < wN f → M'.1 10 w = fallF f w) → w_X12_allFall_29 E (D + 6) post px (nI i) M') (wN f) (fun i hi ih M' hm hr h10' => ?_) (fun M' hm hr _ => ?_) 0 (by omega) M0 hf0 hr0 h10
    · have sm := fallI_sm (f := f) (i := i) (by omega)
      refine t_X12_allFall_29 (e_X12_witnesses (pk_le (wN f) i (fun z => absurd z (by omega)) (fun _ => s_X12_at (what := 3) (s_X12_of (what := 3) (by omega) ⟨pk_in i _ (by omega), pk_in _ _ (show 29 + 5 * i + 3 < 2070 by omega), fun M17 e17 => ?_⟩)) (by rw [hm]; exact (sm.lo (j := 0) (by omega)).trans w5.1)))
      rw [nI_clamp (n := i) (by omega), nI_clamp (n := 29 + 5 * i + 3) (by omega), hm, h10' i hi, fallI_out (j := 29 + 5 * i + 3) (fun w hw => by omega)] at e17
      rw [nI_1]
      refine ih M17 (by rw [e17, zup_row, hm]; rfl) (by rw [e17]; exact rq.up1.trans hr) (fun w hw => by rw [e17, zup_o (by decide)]; exact h10' w hw)
    · have sm := fallI_sm (f := f) (i := wN f) (by omega)
      exact t_X12_allFall_29 (e_X12_witnesses (pk_le (wN f) (wN f) (fun _ => hp M' hm hr) (fun z => absurd z (by omega)) (by rw [hm]; exact (sm.lo (j := 0) (by omega)).trans w5.1)))
  refine e_X12_allFall (zup_loop (fun i => ∀ M', M'.1 1 = f → rq M' M → (∀ w, w < i → M'.1 10 w = fallF f w) → w_X12_allFall_2 E (D + 6) post px (nI i) M') (wN f) (fun i hi ih M' hm hr h10 => ?_) (fun M' hm hr h10 => ?_) 0 (by omega) M hf rq.refl (fun w hw => absurd hw (by omega)))
  · refine t_X12_allFall_2 (e_X12_witnesses (pk_le (wN f) i (fun z => absurd z (by omega)) (fun _ => s_X12_fallsBy (by rw [hm]; exact hk) (by rw [hm]; exact hL) (by omega) (fun M7 r7 => ⟨pk_in i _ (by omega), fun M12 e12 => ?_⟩)) (by rw [hm]; exact w5.1)))
    rw [nI_clamp (by omega), hm] at e12
    rw [nI_1]
    refine ih M12 (by rw [e12, zup_o (by decide), r7.w, hm]) (by rw [e12]; exact rq.up10.trans (r7.rk.rq.trans hr)) (fun w hw => ?_)
    by_cases cw : w = i
    · rw [cw, e12, zup_s]
    · rw [e12, zup_n (Or.inr cw), r7.1 10 (by decide)]
      exact h10 w (by omega)
  · exact t_X12_allFall_2 (e_X12_witnesses (pk_le (wN f) (wN f) (fun _ => loop2 M' hm hr h10) (fun z => absurd z (by omega)) (by rw [hm]; exact w5.1)))
end LIVE
