/-! ===== what a court's row, a law's text depend on ===== -/
theorem okF_f {f g : zRow} (e : ∀ j, j < 372 → g j = f j) (h : okF f) : okF g := by
  have hw := h.w.2
  have ht := h.t.2
  have hq := h.q.2
  have hk := h.k.2
  obtain ⟨h1, h2, h3, h4, h5⟩ := h
  have e0 := e 0 (by decide)
  have e1 := e 1 (by decide)
  have e2 := e 2 (by decide)
  have e3 := e 3 (by decide)
  refine ⟨?_, fun i hi => ?_, fun t ht' => ?_, fun q hq' => ?_, fun k hk' => ?_⟩
  · rw [e0, e1, e2, e3, e 4 (by decide), e 5 (by decide), e 6 (by decide), e 7 (by decide), e 8 (by decide), e 9 (by decide), e 10 (by decide)]
    exact h1
  · rw [wN, e0] at hi
    have hi' : i < wN f := hi
    have := h2 i hi'
    obtain ⟨a1, a2, a3, a4, a5, a6, a7, a8, a9, a10⟩ := this
    have b5 := a5.le (by decide)
    have b7 := a7.le (by decide)
    unfold okW
    rw [wN, e0, e _ (by omega), e (29 + 5 * i + 1) (by omega), e (29 + 5 * i + 2) (by omega), e (29 + 5 * i + 3) (by omega), e (29 + 5 * i + 4) (by omega), e (24 + i) (by omega), e (24 + tn (f (29 + 5 * i + 4))) (by omega), e (29 + 5 * tn (f (24 + i)) + 4) (by omega)]
    exact ⟨a1, a2, a3, a4, a5, a6, a7, a8, a9, a10⟩
  · rw [tN, e1] at ht'
    have ht2 : t < tN f := ht'
    unfold okT
    rw [e _ (by omega), e (54 + 3 * t + 1) (by omega), e (54 + 3 * t + 2) (by omega)]
    exact h3 t ht'
  · rw [qN, e2] at hq'
    have hq2 : q < qN f := hq'
    rw [tN, e1, e _ (by omega)]
    exact h4 q hq'
  · rw [kN, e3] at hk'
    have hk2 : k < kN f := hk'
    rw [e _ (by omega)]
    exact h5 k hk'
theorem soF_f {f g : zRow} (e : ∀ j, j < 372 → g j = f j) (h : tN f ≤ 6) : soF g = soF f := by
  unfold soF
  rw [tN, e 1 (by decide)]
  exact orI_cong fun t ht => by
    have : t < tN f := ht
    rw [e _ (by omega)]
theorem lgR_f {f g : zRow} (e : ∀ j, j < 372 → g j = f j) {k : Nat} (hk : k < 60) {v : Int64} (h : lgR f k v) : lgR g k v := by
  unfold lgR at h ⊢
  rw [e (72 + 5 * k) (by omega), e (72 + 5 * k + 1) (by omega), e (72 + 5 * k + 2) (by omega), e (72 + 5 * k + 3) (by omega), e (72 + 5 * k + 4) (by omega)]
  exact h
theorem cR_f {M : zM} {b : Nat} {f g : zRow} (e : ∀ j, j < 372 → g j = f j) (hk : okF f) (h : cR M b f) : cR M b g := by
  have hw := hk.w.2
  have ht := hk.t.2
  have hq := hk.q.2
  have hk4 := hk.k.2
  have hg := hk.g.2
  obtain ⟨h1, h2, h3, h4, h5, h6, nx, h7, h8, h9⟩ := h
  have e0 := e 0 (by decide)
  have e1 := e 1 (by decide)
  have e2 := e 2 (by decide)
  have e3 := e 3 (by decide)
  have e10 := e 10 (by decide)
  refine ⟨?_, fun i hi => ?_, fun i hi => ?_, fun i hi => ?_, fun i hi => ?_, ?_, nx, h7, h8, fun i hi => ?_⟩
  · unfold cR1 at h1 ⊢
    rw [e0, e1, e2, e3, e 4 (by decide), soF_f e ht, e 7 (by decide), e 8 (by decide), e 9 (by decide), e 6 (by decide), e 11 (by decide)]
    exact h1
  · rw [wN, e0] at hi
    have hi' : i < wN f := hi
    have := h2 i hi'
    unfold cR2 at this ⊢
    rw [e _ (by omega), e (29 + 5 * i + 1) (by omega), e (29 + 5 * i + 2) (by omega), e (29 + 5 * i + 3) (by omega), e (29 + 5 * i + 4) (by omega), e (24 + i) (by omega)]
    exact this
  · rw [tN, e1] at hi
    have hi' : i < tN f := hi
    rw [e _ (by omega), e (54 + 3 * i + 1) (by omega)]
    exact h3 i hi
  · rw [qN, e2] at hi
    have hi' : i < qN f := hi
    rw [e _ (by omega)]
    exact h4 i hi
  · rw [kN, e3] at hi
    have hi' : i < kN f := hi
    rw [e _ (by omega)]
    exact h5 i hi
  · rw [e10]; exact h6
  · rw [gN, e10] at hi
    have hi' : i < gN f := hi
    exact lgR_f e (by omega) (h9 i hi)
theorem crtE_same {M M' : zM} {c : Nat} (h : ∀ o j, c ≤ o → o < c + 14 → M'.1 o j = M.1 o j ∧ M'.2 o j = M.2 o j) : crtE M' c M c :=
  ⟨fun j _ _ => (h _ _ (by omega) (by omega)).1, (h _ _ (by omega) (by omega)).1, fun i j h1 h2 _ => (h _ _ (by omega) (by omega)).1, ⟨(h _ _ (by omega) (by omega)).1, (h _ _ (by omega) (by omega)).1⟩, fun j _ => (h _ _ (by omega) (by omega)).2, fun j _ => (h _ _ (by omega) (by omega)).1, fun j _ => (h _ _ (by omega) (by omega)).1, fun j _ => (h _ _ (by omega) (by omega)).1, fun j _ => (h _ _ (by omega) (by omega)).1⟩
theorem cR_same {M M' : zM} {c : Nat} {f : zRow} (h : ∀ o j, c ≤ o → o < c + 14 → M'.1 o j = M.1 o j ∧ M'.2 o j = M.2 o j) (hk : okF f) (hc : cR M c f) : cR M' c f := cR_copy hk hc (crtE_same h)
theorem lawR_same {M M' : zM} {b b' : Nat} {f g : zRow} (e5 : g 5 = f 5) (e : ∀ j, j < 849 → g (372 + j) = f (372 + j)) (h6 : M'.1 b' 6 = M.1 b 6) (h1 : ∀ i j, 1 ≤ i → i < 4 → j < 12 → M'.1 (b' + i) j = M.1 (b + i) j) (h4 : ∀ j, j < 400 → M'.1 (b' + 4) j = M.1 (b + 4) j) (h : lawR M b f) : lawR M' b' g := by
  unfold lawR at h ⊢
  rw [e5, h6]
  refine ⟨h.1, fun c => ?_⟩
  obtain ⟨n, a1, a2, a3, en, a4⟩ := h.2 c
  refine ⟨n, a1, by rw [show (372 : Nat) = 372 + 0 from rfl, e 0 (by decide)]; exact a2, a3, en, fun l hl => ?_⟩
  obtain ⟨c1, c2, c3, c4, c5, c6, c7, c8, c9, c10, c11⟩ := a4 l hl
  have k0 : g (373 + 4 * l) = f (373 + 4 * l) := by rw [show 373 + 4 * l = 372 + (1 + 4 * l) by omega]; exact e _ (by omega)
  have k1 : g (373 + 4 * l + 1) = f (373 + 4 * l + 1) := by rw [show 373 + 4 * l + 1 = 372 + (2 + 4 * l) by omega]; exact e _ (by omega)
  have k2 : g (373 + 4 * l + 2) = f (373 + 4 * l + 2) := by rw [show 373 + 4 * l + 2 = 372 + (3 + 4 * l) by omega]; exact e _ (by omega)
  have k3 : g (373 + 4 * l + 3) = f (373 + 4 * l + 3) := by rw [show 373 + 4 * l + 3 = 372 + (4 + 4 * l) by omega]; exact e _ (by omega)
  have kc : ∀ i, i < 400 → g (421 + 2 * i) = f (421 + 2 * i) ∧ g (421 + 2 * i + 1) = f (421 + 2 * i + 1) := fun i hi => ⟨by rw [show 421 + 2 * i = 372 + (49 + 2 * i) by omega]; exact e _ (by omega), by rw [show 421 + 2 * i + 1 = 372 + (50 + 2 * i) by omega]; exact e _ (by omega)⟩
  refine ⟨c1, c2, by rw [k0]; exact c3, by rw [k1]; exact c4, by rw [k2]; exact c5, by rw [k3]; exact c6, by rw [k0, h1 1 l (by decide) (by decide) (by omega)]; exact c7, by rw [k1, h1 2 l (by decide) (by decide) (by omega)]; exact c8, by rw [h1 3 l (by decide) (by decide) (by omega)]; exact c9, fun i h1 h2 => ?_, fun hp => ?_⟩
  · rw [(kc i (by omega)).1, (kc i (by omega)).2, h4 i (by omega)]
    exact c10 i h1 h2
  · have key : ∀ (n i : Nat) (st : List Bool), i + n ≤ 400 → runK (fun i => g (421 + 2 * i)) n i st = runK (fun i => f (421 + 2 * i)) n i st := by
      intro n
      induction n with
      | zero => intro i st _; rfl
      | succ n ih =>
        intro i st hi
        unfold runK
        show (match stepK (g (421 + 2 * i)) st with | none => none | some st1 => if st1.length ≤ 30 then runK (fun i => g (421 + 2 * i)) n (i + 1) st1 else none) = _
        rw [(kc i (by omega)).1]
        cases hs : stepK (f (421 + 2 * i)) st with
        | none => simp only [hs]
        | some st1 =>
          simp only [hs]
          rw [ih (i + 1) st1 (by omega)]
    rw [key _ _ _ (by omega)]
    exact c11 hp
/-! ===== rows copied one by one ===== -/
def zcp (M : zM) (o d o2 s n : Nat) : zM := (fun a j => if a = o ∧ d ≤ j ∧ j < d + n then M.1 o2 (s + (j - d)) else M.1 a j, M.2)
theorem zcp_0 (M : zM) (o d o2 s : Nat) : zcp M o d o2 s 0 = M := by
  unfold zcp
  refine Prod.ext (funext fun a => funext fun j => ?_) rfl
  exact if_neg (by omega)
theorem zcp_succ {M : zM} {o d o2 s n : Nat} (h : o ≠ o2 ∨ d ≤ s) : zup (zcp M o d o2 s n) o (d + n) ((zcp M o d o2 s n).1 o2 (s + n)) = zcp M o d o2 s (n + 1) := by
  unfold zcp zup
  refine Prod.ext (funext fun a => funext fun j => ?_) rfl
  show (if a = o ∧ j = d + n then (if o2 = o ∧ d ≤ s + n ∧ s + n < d + n then M.1 o2 (s + (s + n - d)) else M.1 o2 (s + n)) else (if a = o ∧ d ≤ j ∧ j < d + n then M.1 o2 (s + (j - d)) else M.1 a j)) = (if a = o ∧ d ≤ j ∧ j < d + (n + 1) then M.1 o2 (s + (j - d)) else M.1 a j)
  rw [if_neg (show ¬ (o2 = o ∧ d ≤ s + n ∧ s + n < d + n) from fun z => by rcases h with h | h; exact h z.1.symm; omega)]
  by_cases h1 : a = o
  · by_cases h2 : j = d + n
    · rw [if_pos ⟨h1, h2⟩, if_pos ⟨h1, by omega, by omega⟩, h2, show s + (d + n - d) = s + n by omega]
    · rw [if_neg (fun z => h2 z.2)]
      by_cases h3 : d ≤ j ∧ j < d + n
      · rw [if_pos ⟨h1, h3⟩, if_pos ⟨h1, h3.1, by omega⟩]
      · rw [if_neg (fun z => h3 z.2), if_neg (fun z => h3 ⟨z.2.1, by omega⟩)]
  · rw [if_neg (fun z => h1 z.1), if_neg (fun z => h1 z.1), if_neg (fun z => h1 z.1)]
theorem zcp_in {M : zM} {o d o2 s n j : Nat} (h : d ≤ j) (h2 : j < d + n) : (zcp M o d o2 s n).1 o j = M.1 o2 (s + (j - d)) := if_pos ⟨rfl, h, h2⟩
theorem zcp_out {M : zM} {o d o2 s n a j : Nat} (h : a ≠ o ∨ j < d ∨ d + n ≤ j) : (zcp M o d o2 s n).1 a j = M.1 a j := if_neg (fun z => by rcases h with h | h; exact h z.1; omega)
theorem zcp_L {M : zM} {o d o2 s n : Nat} : (zcp M o d o2 s n).2 = M.2 := rfl
