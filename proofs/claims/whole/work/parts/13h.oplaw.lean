/-! ===== what a court depends on, but for whether there is a law ===== -/
theorem okF_5 {f g : zRow} (e : ∀ j, j < 372 → j ≠ 5 → g j = f j) (h55 : isN (g 5) 1) (h : okF f) : okF g := by
  have hw := h.w.2
  have ht := h.t.2
  have hq := h.q.2
  have hk := h.k.2
  obtain ⟨h1, h2, h3, h4, h5⟩ := h
  have e0 := e 0 (by decide) (by decide)
  have e1 := e 1 (by decide) (by decide)
  have e2 := e 2 (by decide) (by decide)
  have e3 := e 3 (by decide) (by decide)
  refine ⟨?_, fun i hi => ?_, fun t ht' => ?_, fun q hq' => ?_, fun k hk' => ?_⟩
  · rw [e0, e1, e2, e3, e 4 (by decide) (by decide), e 6 (by decide) (by decide), e 7 (by decide) (by decide), e 8 (by decide) (by decide), e 9 (by decide) (by decide), e 10 (by decide) (by decide)]
    exact ⟨h1.1, h1.2.1, h1.2.2.1, h1.2.2.2.1, h1.2.2.2.2.1, h55, h1.2.2.2.2.2.2⟩
  · rw [wN, e0] at hi
    have hi' : i < wN f := hi
    have := h2 i hi'
    obtain ⟨a1, a2, a3, a4, a5, a6, a7, a8, a9, a10⟩ := this
    have b5 := a5.le (by decide)
    have b7 := a7.le (by decide)
    unfold okW
    rw [wN, e0, e _ (by omega) (by omega), e (29 + 5 * i + 1) (by omega) (by omega), e (29 + 5 * i + 2) (by omega) (by omega), e (29 + 5 * i + 3) (by omega) (by omega), e (29 + 5 * i + 4) (by omega) (by omega), e (24 + i) (by omega) (by omega), e (24 + tn (f (29 + 5 * i + 4))) (by omega) (by omega), e (29 + 5 * tn (f (24 + i)) + 4) (by omega) (by omega)]
    exact ⟨a1, a2, a3, a4, a5, a6, a7, a8, a9, a10⟩
  · rw [tN, e1] at ht'
    have ht2 : t < tN f := ht'
    unfold okT
    rw [e _ (by omega) (by omega), e (54 + 3 * t + 1) (by omega) (by omega), e (54 + 3 * t + 2) (by omega) (by omega)]
    exact h3 t ht'
  · rw [qN, e2] at hq'
    have hq2 : q < qN f := hq'
    rw [tN, e1, e _ (by omega) (by omega)]
    exact h4 q hq'
  · rw [kN, e3] at hk'
    have hk2 : k < kN f := hk'
    rw [e _ (by omega) (by omega)]
    exact h5 k hk'
theorem soF_5 {f g : zRow} (e : ∀ j, j < 372 → j ≠ 5 → g j = f j) (h : tN f ≤ 6) : soF g = soF f := by
  unfold soF
  rw [tN, e 1 (by decide) (by decide)]
  exact orI_cong fun t ht => by
    have : t < tN f := ht
    rw [e _ (by omega) (by omega)]
theorem lgR_5 {f g : zRow} (e : ∀ j, j < 372 → j ≠ 5 → g j = f j) {k : Nat} (hk : k < 60) {v : Int64} (h : lgR f k v) : lgR g k v := by
  unfold lgR at h ⊢
  rw [e (72 + 5 * k) (by omega) (by omega), e (72 + 5 * k + 1) (by omega) (by omega), e (72 + 5 * k + 2) (by omega) (by omega), e (72 + 5 * k + 3) (by omega) (by omega), e (72 + 5 * k + 4) (by omega) (by omega)]
  exact h
theorem cR_5 {M : zM} {b : Nat} {f g : zRow} (e : ∀ j, j < 372 → j ≠ 5 → g j = f j) (hk : okF f) (h : cR M b f) : cR M b g := by
  have hw := hk.w.2
  have ht := hk.t.2
  have hq := hk.q.2
  have hk4 := hk.k.2
  have hg := hk.g.2
  obtain ⟨h1, h2, h3, h4, h5, h6, nx, h7, h8, h9⟩ := h
  have e0 := e 0 (by decide) (by decide)
  have e1 := e 1 (by decide) (by decide)
  have e2 := e 2 (by decide) (by decide)
  have e3 := e 3 (by decide) (by decide)
  have e10 := e 10 (by decide) (by decide)
  refine ⟨?_, fun i hi => ?_, fun i hi => ?_, fun i hi => ?_, fun i hi => ?_, ?_, nx, h7, h8, fun i hi => ?_⟩
  · unfold cR1 at h1 ⊢
    rw [e0, e1, e2, e3, e 4 (by decide) (by decide), soF_5 e ht, e 7 (by decide) (by decide), e 8 (by decide) (by decide), e 9 (by decide) (by decide), e 6 (by decide) (by decide), e 11 (by decide) (by decide)]
    exact h1
  · rw [wN, e0] at hi
    have hi' : i < wN f := hi
    have := h2 i hi'
    unfold cR2 at this ⊢
    rw [e _ (by omega) (by omega), e (29 + 5 * i + 1) (by omega) (by omega), e (29 + 5 * i + 2) (by omega) (by omega), e (29 + 5 * i + 3) (by omega) (by omega), e (29 + 5 * i + 4) (by omega) (by omega), e (24 + i) (by omega) (by omega)]
    exact this
  · rw [tN, e1] at hi
    have hi' : i < tN f := hi
    rw [e _ (by omega) (by omega), e (54 + 3 * i + 1) (by omega) (by omega)]
    exact h3 i hi
  · rw [qN, e2] at hi
    have hi' : i < qN f := hi
    rw [e _ (by omega) (by omega)]
    exact h4 i hi
  · rw [kN, e3] at hi
    have hi' : i < kN f := hi
    rw [e _ (by omega) (by omega)]
    exact h5 i hi
  · rw [e10]; exact h6
  · rw [gN, e10] at hi
    have hi' : i < gN f := hi
    exact lgR_5 e (by omega) (h9 i hi)
theorem run_KL : ∀ (l : List zSt) {i : Nat} {st : List Bool} {F : Nat → Int32}, (∀ k, k < l.length → F (i + k) = nI (l.getD k (0, 0)).1) → runK F l.length i st = runL l st
  | [], i, st, F, h => rfl
  | x :: l, i, st, F, h => by
    have h0 : F i = nI x.1 := h 0 (Nat.succ_pos _)
    show (match stepK (F i) st with | none => none | some st1 => if st1.length ≤ 30 then runK F l.length (i + 1) st1 else none) = (match stepK (nI x.1) st with | none => none | some st1 => if st1.length ≤ 30 then runL l st1 else none)
    rw [h0]
    cases hs : stepK (nI x.1) st with
    | none => rfl
    | some st1 =>
      show (if st1.length ≤ 30 then runK F l.length (i + 1) st1 else none) = (if st1.length ≤ 30 then runL l st1 else none)
      rw [run_KL l (fun k hk => ?_)]
      have := h (k + 1) (Nat.succ_lt_succ hk)
      rw [show i + 1 + k = i + (k + 1) by omega]
      exact this
theorem getD_cut {c : List zSt} {p m k : Nat} {z : zSt} (h : k < m) : ((c.drop p).take m).getD k z = c.getD (p + k) z := by
  rw [List.getD_eq_getElem?_getD, List.getElem?_take, if_pos h, List.getElem?_drop, ← List.getD_eq_getElem?_getD]
theorem getD_in {c : List zSt} {i : Nat} {z : zSt} (h : i < c.length) : c.getD i z ∈ c := by
  rw [List.getD_eq_getElem?_getD, List.getElem?_eq_getElem h]
  exact List.getElem_mem h
/-- a law as it was read -/
theorem lawR_new {M : zM} {B : Nat} {g : zRow} {ls : List zLt} {c : List zSt} (h5 : g 5 = 1) (hl : ls.length ≤ 12) (hc : c.length ≤ 400) (hg : gL ls c) (e0 : g 372 = nI ls.length) (eB : M.1 B 6 = nI ls.length) (eL : ∀ i, i < ls.length → g (373 + 4 * i) = nI (ls.getD i lnZ).1 ∧ g (373 + 4 * i + 1) = nI (ls.getD i lnZ).2.1 ∧ g (373 + 4 * i + 2) = nI (ls.getD i lnZ).2.2.1 ∧ g (373 + 4 * i + 3) = nI (ls.getD i lnZ).2.2.2) (eC : ∀ i, i < c.length → g (421 + 2 * i) = nI (c.getD i (0, 0)).1 ∧ g (421 + 2 * i + 1) = nI (c.getD i (0, 0)).2) (cL : ∀ i, i < ls.length → M.1 (B + 1) i = nI (ls.getD i lnZ).1 ∧ M.1 (B + 2) i = nI (ls.getD i lnZ).2.1 ∧ M.1 (B + 3) i = nI (ls.getD i lnZ).2.2.2) (cC : ∀ i, i < c.length → M.1 (B + 4) i = stC (c.getD i (0, 0))) : lawR M B g := by
  refine ⟨fun z => absurd (h5.symm.trans z) (by decide), fun _ => ⟨ls.length, hl, e0, eB, fun l => (ls.getD l lnZ).2.2.2, fun l hl' => ?_⟩⟩
  obtain ⟨g1, g2, g3⟩ := hg
  obtain ⟨a1, a2, a3, a4, a5, a6⟩ := g3 l hl'
  obtain ⟨b1, b2, b3, b4⟩ := eL l hl'
  obtain ⟨c1, c2, c3⟩ := cL l hl'
  show lawL M B g l (if l = 0 then 0 else (ls.getD (l - 1) lnZ).2.2.2) (ls.getD l lnZ).2.2.2
  rw [← a3]
  refine ⟨a4, by omega, by rw [b1]; exact isN.of a1, by rw [b2]; exact isN.of a2, b3, b4, by rw [c1, b1], by rw [c2, b2], c3, fun i h1 h2 => ?_, fun hp => ?_⟩
  · have hi : i < c.length := by omega
    have hm := g1 _ (getD_in (z := (0, 0)) hi)
    rw [(eC i hi).1, (eC i hi).2, cC i hi]
    exact ⟨isN.of hm.1, isN.of hm.2, rfl⟩
  · have hlen : ((c.drop (ls.getD l lnZ).2.2.1).take ((ls.getD l lnZ).2.2.2 - (ls.getD l lnZ).2.2.1)).length = (ls.getD l lnZ).2.2.2 - (ls.getD l lnZ).2.2.1 := by
      rw [List.length_take, List.length_drop]; omega
    have key := run_KL ((c.drop (ls.getD l lnZ).2.2.1).take ((ls.getD l lnZ).2.2.2 - (ls.getD l lnZ).2.2.1)) (i := (ls.getD l lnZ).2.2.1) (st := []) (F := fun i => g (421 + 2 * i)) (fun k hk => by
      rw [hlen] at hk
      rw [getD_cut hk]
      exact (eC _ (by omega)).1)
    rw [hlen] at key
    exact key.trans (a6 hp)
section RELT
variable {M M2 : zM}
/-- a text was read: no acts are remembered -/
theorem Rel.txt (h : Rel M) (ok : okF (M2.1 1)) (cr : cR M2 61 (M2.1 1)) (lw : lawR M2 36 (M2.1 1)) (tp : tapeR M2) (wr : M2.1 19 11 = M2.1 0 14) (i1 : M2.1 19 12 = M.1 19 12) (i2 : M2.1 0 6 = M.1 0 6) (i3 : ∀ j, M2.1 2 j = M.1 2 j) (i4 : ∀ o j, 89 ≤ o → o < 103 → M2.1 o j = M.1 o j ∧ M2.2 o j = M.2 o j) (i5 : ∀ o j, 29 ≤ o → o < 34 → M2.1 o j = M.1 o j) (h7 : M2.1 0 7 = 0) (h1 : M2.1 59 1 = 0) (h2 : M2.1 59 2 = M.1 59 2) : Rel M2 := by
  obtain ⟨n, nx, c1, c2, c3, c4, c5, c6⟩ := h.his
  exact Rel.of ⟨ok, cr, lw, tp, wr, imgR_same h.img i1 i2 i3 i4 i5, 0, nx, by omega, c2, h7, h1, by rw [h2]; exact c5, fun k hk => absurd hk (by omega)⟩
/-- a text was wrong -/
theorem Rel.fail (h : Rel M) (g : ∀ o j, irr o j = false → ¬ (o = 20 ∧ j = 1) → ¬ (o = 0 ∧ j = 9) → ¬ (o = 19 ∧ j = 11) → ¬ (o = 0 ∧ j = 14) → ¬ (o = 1 ∧ 1221 ≤ j) → M2.1 o j = M.1 o j ∧ M2.2 o j = M.2 o j) (h20 : M2.1 20 1 = 0) (h9 : M2.1 0 9 = 0) (hw : M2.1 19 11 = M2.1 0 14) : Rel M2 := by
  have w1 : ∀ j, j < 1221 → M2.1 1 j = M.1 1 j := fun j hj => (g 1 j rfl (by omega) (by omega) (by omega) (by omega) (by omega)).1
  have G : ∀ o j, irr o j = false → o ≠ 20 → o ≠ 0 → o ≠ 19 → o ≠ 1 → M2.1 o j = M.1 o j ∧ M2.2 o j = M.2 o j := fun o j h1 h2 h3 h4 h5 => g o j h1 (by omega) (by omega) (by omega) (by omega) (by omega)
  refine Rel.of ⟨okF_f (fun j hj => w1 j (by omega)) h.ok, ?_, ?_, ?_, hw, ?_, ?_⟩
  · exact cR_f (fun j hj => w1 j (by omega)) h.ok (cR_same (fun o j h1 h2 => G o j (irr_now (by omega) (by omega)) (by omega) (by omega) (by omega) (by omega)) h.ok h.now)
  · exact lawR_same (w1 5 (by decide)) (fun j hj => w1 _ (by omega)) (G 36 6 rfl (by decide) (by decide) (by decide) (by decide)).1 (fun i j h1 h2 h3 => (G _ j (irr_far (by omega) (by omega) (by omega)) (by omega) (by omega) (by omega) (by omega)).1) (fun j _ => (G _ j rfl (by decide) (by decide) (by decide) (by decide)).1) h.law
  · obtain ⟨n, hn, t1, t2, t3⟩ := h.tape
    refine ⟨0, by omega, h20, h9, fun j hj => ?_⟩
    rw [(G 21 j rfl (by decide) (by decide) (by decide) (by decide)).1, (G 6 j rfl (by decide) (by decide) (by decide) (by decide)).1]
    exact t3 j hj
  · exact imgR_same h.img (g 19 12 rfl (by omega) (by omega) (by omega) (by omega) (by omega)).1 (g 0 6 rfl (by omega) (by omega) (by omega) (by omega) (by omega)).1 (fun j => (G 2 j rfl (by decide) (by decide) (by decide) (by decide)).1) (fun o j h1 h2 => G o j (irr_hi (by omega)) (by omega) (by omega) (by omega) (by omega)) (fun o j h1 h2 => (G o j (irr_far (by omega) (by omega) (by omega)) (by omega) (by omega) (by omega) (by omega)).1)
  · obtain ⟨n, nx, c1, c2, c3, c4, c5, c6⟩ := h.his
    refine ⟨n, nx, c1, c2, ?_, ?_, ?_, fun k hk => ?_⟩
    · rw [(g 0 7 rfl (by omega) (by omega) (by omega) (by omega) (by omega)).1]; exact c3
    · rw [(G 59 1 rfl (by decide) (by decide) (by decide) (by decide)).1]; exact c4
    · rw [(G 59 2 rfl (by decide) (by decide) (by decide) (by decide)).1]; exact c5
    · obtain ⟨f1, f2, f3⟩ := c6 k hk
      have hz := zc_lo ((nx + 11 - k) % 12)
      have er : ∀ j, j < 372 → M2.1 5 (372 * (n - 1 - k) + j) = M.1 5 (372 * (n - 1 - k) + j) := fun j _ => (G 5 _ rfl (by decide) (by decide) (by decide) (by decide)).1
      exact ⟨okF_f er f1, cR_f er f1 (cR_same (fun o j h1 h2 => G o j (irr_hi (by omega)) (by omega) (by omega) (by omega) (by omega)) f1 f2), by rw [er 5 (by decide), w1 5 (by decide)]; exact f3⟩
theorem usM_0 {M : zM} {j : Nat} (h0 : j ≠ 0) (h9 : j ≠ 9) (h10 : j ≠ 10) (h11 : j ≠ 11) : (usM M).1 0 j = M.1 0 j := by
  unfold usM
  rw [zup_n (Or.inr h10), zup_n (Or.inr h9), zup_n (Or.inr h11), zup_n (Or.inr h0)]
theorem irr_0 {j : Nat} (h : irr 0 j = false) : j ≠ 0 ∧ j ≠ 10 ∧ j ≠ 11 ∧ j ≠ 12 ∧ j ≠ 13 ∧ j ≠ 16 := ⟨(by rintro rfl; cases h), (by rintro rfl; cases h), (by rintro rfl; cases h), (by rintro rfl; cases h), (by rintro rfl; cases h), (by rintro rfl; cases h)⟩
end RELT
section OPLAW
variable {E : zEv} {D : Nat} {M : zM} {K : zM → Prop}
theorem op_law (h : Rel M) (hK : ∀ M', Rel M' → K M') : zCWi E jL_law (D + 60) 1 [.ref 19, .ref 18] M (opR E jX12_law (D + 60) [.ref 0] K) := by
  obtain ⟨n, hn, t1, t2⟩ := h.sz
  have ht : tcC M (byF M) n := ⟨hn, t1, fun j hj => ⟨(h.by hj).1, (h.by hj).2.2⟩⟩
  have e20 : nI n + 1 = nI (n + 1) := nI_1 n
  refine e_L_law (e_X11_law (s_X6_read ht (fun e he M1 b1 b2 => z0A ?_) (fun r hr M1 q hI => z1B ?_)))
  · have e4 := law_p.1 e he
    refine t_X11_law_26 (fun M2 e2 => e_X9_useUp (fun M3 e3 => ?_))
    have v3 : M3.1 19 11 = nI e := by rw [e3, zup_o (by decide), e2, zup_s, b1]
    rw [v3]
    refine ⟨fun z => absurd z (nI_m1 (by omega)), fun _ => ⟨rfl, fun px => ?_⟩⟩
    have O3 : ∀ o j, irr o j = false → ¬ (o = 20 ∧ j = 1) → ¬ (o = 19 ∧ j = 11) → M3.1 o j = M.1 o j := fun o j g1 g2 g3 => by rw [e3, zup_n (by omega), e2, zup_n (by omega)]; exact zpi_at b2 g1
    have L3 : ∀ o j, irr o j = false → M3.2 o j = M.2 o j := fun o j g1 => by rw [e3, zup_L, e2, zup_L]; exact zpi_atL b2 g1
    refine e_X12_law (s_X12_readLaw (b := byF M) hn (by rw [O3 0 9 rfl (by omega) (by omega)]; exact t2) (fun j hj => by rw [O3 6 j rfl (by omega) (by omega)]; exact ⟨(h.by hj).2.1, (h.by hj).2.2⟩) (fun e' he' M4 c1 c2 => ?_) (fun r' hr' => absurd (he.symm.trans hr') (fun z => by cases z)))
    have ee : e = e' := Sum.inl.inj (he.symm.trans he')
    subst ee
    refine ⟨fun z => absurd z (by decide), fun _ => t_X12_law_19 (fun M5 e5 => ⟨fun z => absurd z (by decide), fun _ => t_X12_law_32 (s_throws1 (z1B ⟨zup_s, fun z => absurd z (by decide), hK _ ?_⟩))⟩)⟩
    have O4 : ∀ o j, irr o j = false → ¬ (o = 20 ∧ j = 1) → ¬ (o = 0 ∧ j = 9) → ¬ (o = 19 ∧ j = 11) → ¬ (o = 1 ∧ 1221 ≤ j) → M4.1 o j = M.1 o j := fun o j g1 g2 g3 g4 g5 => by
      by_cases co : o = 0
      · subst co
        have := irr_0 g1
        rw [c2.2.1 j (by omega) (by omega) (by omega) (by omega), usM_0 (by omega) (by omega) (by omega) (by omega)]
        exact O3 0 j g1 g2 g4
      · rw [c2.1 o j co (by omega), us_o co]
        exact O3 o j g1 g2 g4
    refine h.fail (fun o j g1 g2 g3 g4 g5 g6 => ⟨?_, ?_⟩) ?_ ?_ ?_
    · have n0 : o = 0 → j ≠ 0 := fun co => by subst co; exact (irr_0 g1).1
      rw [zup_n (by omega), e5, zup_n (by omega)]
      exact O4 o j g1 g2 g3 g4 g6
    · rw [zup_L, e5, zup_L, c2.2.2, us_L]
      exact L3 o j g1
    · rw [zup_o (by decide), e5, zup_o (by decide), c2.1 20 1 (by decide) (by omega), us_o (by decide), e3, zup_s]
    · rw [zup_n (Or.inr (by decide)), e5, zup_n (Or.inr (by decide)), c2.2.1 9 (by decide) (by decide) (by decide) (by decide)]; rfl
    · rw [zup_o (by decide), zup_n (Or.inr (by decide)), e5, zup_o (by decide), zup_s, c1, c2.1 19 11 (by decide) (by omega), us_o (by decide), v3]
  · obtain ⟨gl, gl12, gln⟩ := law_p.2 r hr
    obtain ⟨I1, I2, I3, I4, I5, I6⟩ := hI
    refine t_X11_law_26 (fun M2 e2 => e_X9_useUp (fun M3 e3 => ?_))
    have v3 : M3.1 19 11 = -1 := by rw [e3, zup_o (by decide), e2, zup_s]
    rw [v3]
    have O3 : ∀ o j, irr o j = false → ¬ (o = 20 ∧ j = 1) → ¬ (o = 19 ∧ j = 11) → M3.1 o j = M.1 o j := fun o j g1 g2 g3 => by rw [e3, zup_n (by omega), e2, zup_n (by omega)]; exact zpi_at I2 g1
    have L3 : ∀ o j, irr o j = false → M3.2 o j = M.2 o j := fun o j g1 => by rw [e3, zup_L, e2, zup_L]; exact zpi_atL I2 g1
    have D3 : ∀ o j, 22 ≤ o → o < 29 → M3.1 o j = M1.1 o j := fun o j g1 g2 => by rw [e3, zup_o (by omega), e2, zup_o (by omega)]
    refine ⟨fun _ => s_X6_copy zl36 zl22 (by omega) (fun M9 b1 b2 b3 b4 b5 => e_X5_forget (fun M11 e11 M4 e4 px => ?_)), fun z => absurd rfl z⟩
    have v36 : M11.1 36 6 = nI r.1.length := by rw [e11, zup_o (by decide), b1, D3 22 6 (by decide) (by decide)]; exact I3
    rw [v36] at e4
    have O4 : ∀ o j, irr o j = false → ¬ (o = 20 ∧ j = 1) → ¬ (o = 19 ∧ j = 11) → (o < 36 ∨ 41 ≤ o) → ¬ (o = 59 ∧ j = 1) → M4.1 o j = M.1 o j := fun o j g1 g2 g3 g4 g5 => by rw [e4, zupL_I, e11, zup_n (by omega), b4 o (by omega)]; exact O3 o j g1 g2 g3
    have L4 : ∀ o j, irr o j = false → M4.2 o j = M.2 o j := fun o j g1 => by
      have n18 : o ≠ 18 := fun q => by rw [q] at g1; cases g1
      rw [e4, zupL_n (Or.inl n18), e11, zup_L, b5]; exact L3 o j g1
    refine e_X12_law (s_X12_readLaw (b := byF M) hn (by rw [O4 0 9 rfl (by omega) (by omega) (by omega) (by omega)]; exact t2) (fun j hj => by rw [O4 6 j rfl (by omega) (by omega) (by omega) (by omega)]; exact ⟨(h.by hj).2.1, (h.by hj).2.2⟩) (fun e' he' => absurd (hr.symm.trans he') (fun z => by cases z)) (fun r' hr' M5 c1 c2 c3 => ?_))
    have ee : r = r' := Sum.inr.inj (hr.symm.trans hr')
    subst ee
    have le0 : (0 : Int32) ≤ nI r.1.length := nI_le (a := 0) (Nat.zero_le _) (by omega)
    refine ⟨fun _ => t_X12_law_19 (fun M6 e6 => ⟨fun _ => t_X12_law_32 (s_throws0 (z0A (fun M7 e7 => ?_))), fun z => absurd le0 z⟩), fun z => absurd le0 z⟩
    have key := zup_loop (fun i => w_X12_law_52 E (D + 59) (fun b M2 => M2.1 0 0 = 0 ∧ ((0 : Int32) = 0 → M2.2 18 0 = b.toInt64) ∧ K M2) px (nI r.1.length) (nI i) (zcp M7 1 372 1 1221 i)) 849 (fun i hi ih => ?_) ?_ 0 (by decide)
    · rw [zcp_0] at key
      exact key
    · refine t_X12_law_52 (pk_le 849 i (fun z => absurd z (by omega)) (fun _ => ?_))
      rw [show (1221 : Int32) + nI i = nI (1221 + i) from nI_add 1221 i, show (372 : Int32) + nI i = nI (372 + i) from nI_add 372 i, nI_clamp (n := 1221 + i) (by omega), nI_clamp (n := 372 + i) (by omega)]
      refine ⟨pk_in (1221 + i) _ (by omega), pk_in (372 + i) _ (by omega), fun M12 e12 => ?_⟩
      rw [e12, zcp_succ (Or.inr (by decide)), nI_1]
      exact ih
    · refine t_X12_law_52 (pk_le 849 849 (fun _ M8 e8 M10 e10 => ?_) (fun z => absurd z (by omega)))
      have n5 : ((5 : Int32)).toNatClampNeg = 5 := rfl
      have n1221 : ((1221 : Int32)).toNatClampNeg = 1221 := rfl
      rw [n5] at e8
      rw [n1221] at e7
      -- the world
      have w7 : ∀ j, 1222 ≤ j → M7.1 1 j = M5.1 1 j := fun j hj => by rw [e7, zup_n (Or.inr (by omega)), e6, zup_o (by decide)]
      have w10 : ∀ j, j < 372 → j ≠ 5 → M10.1 1 j = M.1 1 j := fun j hj h5 => by
        rw [e10, zup_o (by decide), e8, zup_n (Or.inr h5), zcp_out (Or.inr (Or.inl hj)), e7, zup_n (Or.inr (by omega)), e6, zup_o (by decide), c1.1 1 j (by decide) (by omega), us_o (by decide)]
        exact O4 1 j rfl (by omega) (by omega) (by omega) (by omega)
      have w5 : M10.1 1 5 = 1 := by rw [e10, zup_o (by decide), e8, zup_s]
      have wt : ∀ j, 372 ≤ j → j < 1221 → M10.1 1 j = M7.1 1 (1221 + (j - 372)) := fun j h1 h2 => by rw [e10, zup_o (by decide), e8, zup_n (Or.inr (by omega)), zcp_in h1 (by omega)]
      have w372 : M10.1 1 372 = nI r.1.length := by rw [wt 372 (by decide) (by decide), show 1221 + (372 - 372) = 1221 from rfl, e7, zup_s]
      have O10 : ∀ o j, o ≠ 0 → o ≠ 1 → M10.1 o j = M4.1 o j := fun o j g1 g2 => by rw [e10, zup_o g1, e8, zup_o g2, zcp_out (Or.inl g2), e7, zup_o g2, e6, zup_o g1, c1.1 o j g1 (by omega), us_o g1]
      have Z10 : ∀ j, j ≠ 0 → j ≠ 7 → j ≠ 9 → j ≠ 10 → j ≠ 11 → j ≠ 12 → j ≠ 13 → j ≠ 14 → j ≠ 16 → M10.1 0 j = M4.1 0 j := fun j g0 g1 g2 g3 g4 g5 g6 g7 g8 => by rw [e10, zup_n (Or.inr g1), e8, zup_o (by decide), zcp_out (Or.inl (by decide)), e7, zup_o (by decide), e6, zup_n (Or.inr g7), c1.2.1 j g3 g5 g6 g8, usM_0 g0 g2 g3 g4]
      have L10 : M10.2 = M4.2 := by rw [e10, zup_L, e8, zup_L, zcp_L, e7, zup_L, e6, zup_L, c1.2.2, us_L]
      have G : ∀ o j, irr o j = false → o ≠ 0 → o ≠ 1 → ¬ (o = 20 ∧ j = 1) → ¬ (o = 19 ∧ j = 11) → (o < 36 ∨ 41 ≤ o) → ¬ (o = 59 ∧ j = 1) → M10.1 o j = M.1 o j ∧ M10.2 o j = M.2 o j := fun o j g1 g2 g3 g4 g5 g6 g7 => ⟨by rw [O10 o j g2 g3]; exact O4 o j g1 g4 g5 g6 g7, by rw [L10]; exact L4 o j g1⟩
      refine ⟨?_, fun _ => ?_, hK _ ?_⟩
      · rw [e10, zup_n (Or.inr (by decide)), e8, zup_o (by decide), zcp_out (Or.inl (by decide)), e7, zup_o (by decide), e6, zup_n (Or.inr (by decide)), c1.2.1 0 (by decide) (by decide) (by decide) (by decide)]; rfl
      · rw [L10, e4]; exact zupL_s
      · refine h.txt ?_ ?_ ?_ ?_ ?_ ?_ ?_ ?_ ?_ ?_ ?_ ?_ ?_
        · exact okF_5 w10 (by rw [w5]; exact isN.of (n := 1) (by decide)) h.ok
        · exact cR_5 w10 h.ok (cR_same (fun o j h1 h2 => G o j (irr_now (by omega) (by omega)) (by omega) (by omega) (by omega) (by omega) (by omega) (by omega)) h.ok h.now)
        · have X : ∀ o j, 36 ≤ o → o < 41 → M10.1 o j = M9.1 o j := fun o j h1 h2 => by rw [O10 o j (by omega) (by omega), e4, zupL_I, e11, zup_o (by omega)]
          refine lawR_new (ls := r.1) (c := r.2) w5 gl12 (by omega) gl w372 ?_ (fun i hi => ?_) (fun i hi => ?_) (fun i hi => ?_) (fun i hi => ?_)
          · rw [O10 36 6 (by decide) (by decide), e4, zupL_I]; exact v36
          · rw [wt _ (by omega) (by omega), wt (373 + 4 * i + 1) (by omega) (by omega), wt (373 + 4 * i + 2) (by omega) (by omega), wt (373 + 4 * i + 3) (by omega) (by omega), show 1221 + (373 + 4 * i - 372) = 1222 + 4 * i by omega, show 1221 + (373 + 4 * i + 1 - 372) = 1222 + 4 * i + 1 by omega, show 1221 + (373 + 4 * i + 2 - 372) = 1222 + 4 * i + 2 by omega, show 1221 + (373 + 4 * i + 3 - 372) = 1222 + 4 * i + 3 by omega, w7 _ (by omega), w7 _ (by omega), w7 _ (by omega), w7 _ (by omega)]
            exact c3 i hi
          · rw [wt _ (by omega) (by omega), wt (421 + 2 * i + 1) (by omega) (by omega), show 1221 + (421 + 2 * i - 372) = 1270 + 2 * i by omega, show 1221 + (421 + 2 * i + 1 - 372) = 1270 + 2 * i + 1 by omega, w7 _ (by omega), w7 _ (by omega)]
            exact c2.2 i hi
          · have i12 : i < 12 := by omega
            rw [X (36 + 1) i (by decide) (by decide), X (36 + 2) i (by decide) (by decide), X (36 + 3) i (by decide) (by decide), b2 1 i (by decide) (by decide) i12, b2 2 i (by decide) (by decide) i12, b2 3 i (by decide) (by decide) i12, D3 _ i (by decide) (by decide), D3 _ i (by decide) (by decide), D3 _ i (by decide) (by decide)]
            exact I6 i hi
          · rw [X (36 + 4) i (by decide) (by decide), b3 i (by omega), D3 _ i (by decide) (by decide)]
            exact I5 i hi
        · obtain ⟨n', hn', t1', t2', t3'⟩ := h.tape
          refine ⟨0, by omega, ?_, ?_, fun j hj => ?_⟩
          · rw [O10 20 1 (by decide) (by decide), e4, zupL_I, e11, zup_o (by decide), b4 20 (by omega), e3, zup_s]; rfl
          · rw [e10, zup_n (Or.inr (by decide)), e8, zup_o (by decide), zcp_out (Or.inl (by decide)), e7, zup_o (by decide), e6, zup_n (Or.inr (by decide)), c1.2.1 9 (by decide) (by decide) (by decide) (by decide)]; rfl
          · rw [(G 21 j rfl (by decide) (by decide) (by omega) (by omega) (by omega) (by omega)).1, (G 6 j rfl (by decide) (by decide) (by omega) (by omega) (by omega) (by omega)).1]
            exact t3' j hj
        · have a : M10.1 0 14 = -1 := by rw [e10, zup_n (Or.inr (by decide)), e8, zup_o (by decide), zcp_out (Or.inl (by decide)), e7, zup_o (by decide), e6, zup_s]
          rw [a, O10 19 11 (by decide) (by decide), e4, zupL_I, e11, zup_o (by decide), b4 19 (by omega)]; exact v3
        · exact (G 19 12 rfl (by decide) (by decide) (by omega) (by omega) (by omega) (by omega)).1
        · rw [Z10 6 (by decide) (by decide) (by decide) (by decide) (by decide) (by decide) (by decide) (by decide) (by decide)]; exact O4 0 6 rfl (by omega) (by omega) (by omega) (by omega)
        · exact fun j => (G 2 j rfl (by decide) (by decide) (by omega) (by omega) (by omega) (by omega)).1
        · exact fun o j h1 h2 => G o j (irr_hi (by omega)) (by omega) (by omega) (by omega) (by omega) (by omega) (by omega)
        · exact fun o j h1 h2 => (G o j (irr_far (by omega) (by omega) (by omega)) (by omega) (by omega) (by omega) (by omega) (by omega) (by omega)).1
        · rw [e10, zup_s]
        · rw [O10 59 1 (by decide) (by decide), e4, zupL_I, e11, zup_s]
        · exact (G 59 2 rfl (by decide) (by decide) (by omega) (by omega) (by omega) (by omega)).1
end OPLAW
