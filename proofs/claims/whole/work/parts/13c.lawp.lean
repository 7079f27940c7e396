/-! ===== the law's text, as functions ===== -/
abbrev zSt : Type := Nat × Nat
abbrev zRs : Type := Sum Nat (Nat × List (Nat × Nat))
section LAWP
variable (b : Nat → Nat) (n : Nat)
def pFact (q : Nat) : Option Nat := if wdP b n q 0 then some 0 else if wdP b n q 1 then some 1 else if wdP b n q 2 then some 2 else if wdP b n q 3 then some 3 else if wdP b n q 4 then some 4 else if wdP b n q 12 then some 5 else if wdP b n q 6 then some 6 else if wdP b n q 26 then some 7 else none
def pPart (q : Nat) (c : List zSt) : zRs := match pFact b n q with
  | some k => .inr (tb b n (wE b n q), c ++ [(k, 0)])
  | none => match nuF b n q 0 999 with
    | some v => .inr (tb b n (dE b n q), c ++ [(11, v)])
    | none => .inl q
def pSumL : Nat → Nat → List zSt → zRs
  | 0, q, c => .inr (q, c)
  | k + 1, q, c => if sgP b n q 43 then (match pPart b n (tb b n (q + 1)) c with
    | .inl e => .inl e
    | .inr r => pSumL k r.1 (r.2 ++ [(12, 0)])) else .inr (q, c)
def pSum (q : Nat) (c : List zSt) : zRs := match pPart b n q c with
  | .inl e => .inl e
  | .inr r => pSumL b n (n + 1) r.1 r.2
def pTag (q : Nat) : Option Nat := if wdP b n q 23 then some 8 else if wdP b n q 24 then some 9 else if wdP b n q 25 then some 10 else none
def pCmp (s q : Nat) (c : List zSt) : zRs := match pSum b n (tb b n (q + 1)) c with
  | .inl e => .inl e
  | .inr r => .inr (r.1, r.2 ++ [(s, 0)])
def pRest (q : Nat) (c : List zSt) : zRs := match pTag b n q with
  | some t => .inr (tb b n (wE b n q), c ++ [(t, 0)])
  | none => match pSum b n q c with
    | .inl e => .inl e
    | .inr r => if sgP b n r.1 60 then pCmp b n 13 r.1 r.2 else if sgP b n r.1 62 then pCmp b n 14 r.1 r.2 else .inl r.1
def pLoop (A : Nat → List zSt → zRs) (w s : Nat) : Nat → Nat → List zSt → zRs
  | 0, q, c => .inr (q, c)
  | k + 1, q, c => if wdP b n q w then (match A (tb b n (wE b n q)) c with
    | .inl e => .inl e
    | .inr r => pLoop A w s k r.1 (r.2 ++ [(s, 0)])) else .inr (q, c)
def pSeq (A : Nat → List zSt → zRs) (w s q : Nat) (c : List zSt) : zRs := match A q c with
  | .inl e => .inl e
  | .inr r => pLoop b n A w s (n + 1) r.1 r.2
def pCond (A : Nat → List zSt → zRs) : Nat → List zSt → zRs := pSeq b n (pSeq b n A 27 16) 28 17
def pParen (A : Nat → List zSt → zRs) (q : Nat) (c : List zSt) : zRs := match pCond b n A (tb b n (q + 1)) c with
  | .inl e => .inl e
  | .inr r => if sgP b n r.1 41 then .inr (tb b n (r.1 + 1), r.2) else .inl r.1
def pNot (A : Nat → List zSt → zRs) (q : Nat) (c : List zSt) : zRs := match A (tb b n (wE b n q)) c with
  | .inl e => .inl e
  | .inr r => .inr (r.1, r.2 ++ [(15, 0)])
/-- an atom, with r deeper ones left -/
def pAtom : Nat → Nat → List zSt → zRs
  | 0 => fun q c => if sgP b n q 40 ∨ wdP b n q 22 then .inl q else pRest b n q c
  | r + 1 => fun q c => if sgP b n q 40 then pParen b n (pAtom r) q c else if wdP b n q 22 then pNot b n (pAtom r) q c else pRest b n q c
end LAWP
/-- what the steps do to a stack of kinds -/
def runL : List zSt → List Bool → Option (List Bool)
  | [], st => some st
  | x :: l, st => match stepK (nI x.1) st with
    | none => none
    | some st1 => if st1.length ≤ 30 then runL l st1 else none
theorem runL_app (l : List zSt) : ∀ {k : List zSt} {st st1 : List Bool}, runL k st = some st1 → runL (k ++ l) st = runL l st1
  | [], st, st1, h => by
    have e : st = st1 := Option.some.inj h
    rw [e]; rfl
  | x :: k, st, st1, h => by
    unfold runL at h
    show runL (x :: (k ++ l)) st = _
    rw [runL]
    cases hs : stepK (nI x.1) st with
    | none => rw [hs] at h; cases h
    | some st2 =>
      rw [hs] at h
      have h2 : (if st2.length ≤ 30 then runL k st2 else none) = some st1 := h
      show (if st2.length ≤ 30 then runL (k ++ l) st2 else none) = _
      split at h2
      · rename_i c
        rw [if_pos c]
        exact runL_app l h2
      · cases h2
/-- a piece of a text read by A: what stands, from where to where, how many steps; what they leave -/
def gP (b : Nat → Nat) (n : Nat) (v : Bool) (K : Nat) (A : Nat → List zSt → zRs) : Prop := ∀ q c, nbl b n q → (∀ e, A q c = .inl e → e ≤ n) ∧ ∀ r, A q c = .inr r → nbl b n r.1 ∧ q < r.1 ∧ ∃ seg : List zSt, r.2 = c ++ seg ∧ seg.length + q ≤ r.1 ∧ 0 < seg.length ∧ (∀ x, x ∈ seg → x.1 ≤ 17 ∧ x.2 ≤ 999) ∧ ∀ st : List Bool, st.length + K ≤ 30 → runL seg st = some (v :: st)
section GP
variable {b : Nat → Nat} {n : Nat}
theorem fact_le {q k : Nat} (h : pFact b n q = some k) : k ≤ 7 ∧ q < wE b n q := by
  unfold pFact at h
  split at h
  · rename_i c; rw [← Option.some.inj h]; exact ⟨by decide, wd_w (by decide) c⟩
  · split at h
    · rename_i c; rw [← Option.some.inj h]; exact ⟨by decide, wd_w (by decide) c⟩
    · split at h
      · rename_i c; rw [← Option.some.inj h]; exact ⟨by decide, wd_w (by decide) c⟩
      · split at h
        · rename_i c; rw [← Option.some.inj h]; exact ⟨by decide, wd_w (by decide) c⟩
        · split at h
          · rename_i c; rw [← Option.some.inj h]; exact ⟨by decide, wd_w (by decide) c⟩
          · split at h
            · rename_i c; rw [← Option.some.inj h]; exact ⟨by decide, wd_w (by decide) c⟩
            · split at h
              · rename_i c; rw [← Option.some.inj h]; exact ⟨by decide, wd_w (by decide) c⟩
              · split at h
                · rename_i c; rw [← Option.some.inj h]; exact ⟨by decide, wd_w (by decide) c⟩
                · cases h
theorem tag_le {q k : Nat} (h : pTag b n q = some k) : (k = 8 ∨ k = 9 ∨ k = 10) ∧ q < wE b n q := by
  unfold pTag at h
  split at h
  · rename_i c; rw [← Option.some.inj h]; exact ⟨by decide, wd_w (by decide) c⟩
  · split at h
    · rename_i c; rw [← Option.some.inj h]; exact ⟨by decide, wd_w (by decide) c⟩
    · split at h
      · rename_i c; rw [← Option.some.inj h]; exact ⟨by decide, wd_w (by decide) c⟩
      · cases h
theorem step_num {k : Nat} (hk : k ≤ 7 ∨ k = 11) (st : List Bool) : stepK (nI k) st = some (false :: st) := by
  have h := (by decide +kernel : ∀ k : Fin 12, (k.val ≤ 7 ∨ k.val = 11) → ¬ (nI k.val = 8 ∨ nI k.val = 9 ∨ nI k.val = 10) ∧ nI k.val < 12) ⟨k, by omega⟩ hk
  unfold stepK
  rw [if_neg h.1, if_pos h.2]
theorem step_tag {k : Nat} (hk : k = 8 ∨ k = 9 ∨ k = 10) (st : List Bool) : stepK (nI k) st = some (true :: st) := by
  have h := (by decide +kernel : ∀ k : Fin 12, (k.val = 8 ∨ k.val = 9 ∨ k.val = 10) → (nI k.val = 8 ∨ nI k.val = 9 ∨ nI k.val = 10)) ⟨k, by omega⟩ hk
  unfold stepK
  rw [if_pos h]
theorem step_12 (st : List Bool) : stepK (nI 12) (false :: false :: st) = some (false :: st) := by
  unfold stepK
  rw [if_neg (by decide +kernel), if_neg (by decide +kernel)]
  show (if nI 12 = 15 then _ else (if nI 12 = 12 then _ else _)) = _
  rw [if_neg (by decide +kernel), if_pos (by decide +kernel)]
  rfl
theorem step_13 {k : Nat} (hk : k = 13 ∨ k = 14) (st : List Bool) : stepK (nI k) (false :: false :: st) = some (true :: st) := by
  have h := (by decide +kernel : ∀ k : Fin 15, (k.val = 13 ∨ k.val = 14) → ¬ (nI k.val = 8 ∨ nI k.val = 9 ∨ nI k.val = 10) ∧ ¬ nI k.val < 12 ∧ ¬ nI k.val = 15 ∧ ¬ nI k.val = 12 ∧ (nI k.val = 13 ∨ nI k.val = 14)) ⟨k, by omega⟩ hk
  unfold stepK
  rw [if_neg h.1, if_neg h.2.1]
  show (if nI k = 15 then _ else (if nI k = 12 then _ else (if nI k = 13 ∨ nI k = 14 then _ else _))) = _
  rw [if_neg h.2.2.1, if_neg h.2.2.2.1, if_pos h.2.2.2.2]
  rfl
theorem step_15 (st : List Bool) : stepK (nI 15) (true :: st) = some (true :: st) := by
  unfold stepK
  rw [if_neg (by decide +kernel), if_neg (by decide +kernel)]
  show (if nI 15 = 15 then _ else _) = _
  rw [if_pos (by decide +kernel)]
  rfl
theorem step_16 {k : Nat} (hk : k = 16 ∨ k = 17) (st : List Bool) : stepK (nI k) (true :: true :: st) = some (true :: st) := by
  have h := (by decide +kernel : ∀ k : Fin 18, (k.val = 16 ∨ k.val = 17) → ¬ (nI k.val = 8 ∨ nI k.val = 9 ∨ nI k.val = 10) ∧ ¬ nI k.val < 12 ∧ ¬ nI k.val = 15 ∧ ¬ nI k.val = 12 ∧ ¬ (nI k.val = 13 ∨ nI k.val = 14)) ⟨k, by omega⟩ hk
  unfold stepK
  rw [if_neg h.1, if_neg h.2.1]
  show (if nI k = 15 then _ else (if nI k = 12 then _ else (if nI k = 13 ∨ nI k = 14 then _ else _))) = _
  rw [if_neg h.2.2.1, if_neg h.2.2.2.1, if_neg h.2.2.2.2]
  rfl
theorem runL_one {x : zSt} {st st1 : List Bool} (h : stepK (nI x.1) st = some st1) (hl : st1.length ≤ 30) : runL [x] st = some st1 := by
  rw [runL, h]
  show (if st1.length ≤ 30 then runL [] st1 else none) = _
  rw [if_pos hl]
  rfl
theorem g_part : gP b n false 1 (pPart b n) := by
  intro q c hq
  unfold pPart
  cases hf : pFact b n q with
  | some k =>
    have f := fact_le hf
    have w2 := wE_hi (b := b) hq.1
    have t := tb_le (b := b) (n := n) (p := wE b n q)
    refine ⟨fun e he => (by cases he), fun r hr => ?_⟩
    have e : (tb b n (wE b n q), c ++ [(k, 0)]) = r := Sum.inr.inj hr
    subst e
    refine ⟨nbl_tb w2, ?_, [(k, 0)], rfl, ?_, Nat.zero_lt_one, fun x hx => ?_, fun st hs => runL_one (step_num (Or.inl f.1) st) ?_⟩
    · show q < tb b n (wE b n q); omega
    · show 1 + q ≤ tb b n (wE b n q); omega
    · rw [List.mem_singleton] at hx
      rw [hx]
      exact ⟨by show k ≤ 17; omega, Nat.zero_le _⟩
    · show st.length + 1 ≤ 30; omega
  | none =>
    cases hv : nuF b n q 0 999 with
    | some v =>
      have f := nuF_some hv
      have w2 := dE_hi (b := b) hq.1
      have t := tb_le (b := b) (n := n) (p := dE b n q)
      refine ⟨fun e he => (by cases he), fun r hr => ?_⟩
      have e : (tb b n (dE b n q), c ++ [(11, v)]) = r := Sum.inr.inj hr
      subst e
      refine ⟨nbl_tb w2, ?_, [(11, v)], rfl, ?_, Nat.zero_lt_one, fun x hx => ?_, fun st hs => runL_one (step_num (Or.inr rfl) st) ?_⟩
      · show q < tb b n (dE b n q); omega
      · show 1 + q ≤ tb b n (dE b n q); omega
      · rw [List.mem_singleton] at hx
        rw [hx]
        exact ⟨by show 11 ≤ 17; omega, f.2.2⟩
      · show st.length + 1 ≤ 30; omega
    | none =>
      refine ⟨fun e he => ?_, fun r hr => by cases hr⟩
      rw [← Sum.inl.inj he]
      exact hq.1
theorem mem_2 {P : zSt → Prop} {a c : List zSt} {x : zSt} (h1 : ∀ y, y ∈ a → P y) (h2 : ∀ y, y ∈ c → P y) (h3 : P x) : ∀ y, y ∈ a ++ (c ++ [x]) → P y := by
  intro y hy
  rw [List.mem_append, List.mem_append, List.mem_singleton] at hy
  rcases hy with h | h | h
  · exact h1 y h
  · exact h2 y h
  · rw [h]; exact h3
theorem sg_nx {q c : Nat} (h : sgP b n q c) : nbl b n (tb b n (q + 1)) ∧ q < tb b n (q + 1) := by
  have t := tb_le (b := b) (n := n) (p := q + 1)
  exact ⟨nbl_tb h.1, by omega⟩
theorem wd_nx {q w : Nat} (hq : nbl b n q) (hl : 0 < zLitL.getD w 0) (h : wdP b n q w) : nbl b n (tb b n (wE b n q)) ∧ q < tb b n (wE b n q) := by
  have t := tb_le (b := b) (n := n) (p := wE b n q)
  have := wd_w hl h
  exact ⟨nbl_tb (wE_hi hq.1), by omega⟩
/-- the loop over signs of plus -/
theorem g_sumL : ∀ k q c, nbl b n q → (∀ e, pSumL b n k q c = .inl e → e ≤ n) ∧ ∀ r, pSumL b n k q c = .inr r → nbl b n r.1 ∧ q ≤ r.1 ∧ ∃ seg : List zSt, r.2 = c ++ seg ∧ seg.length + q ≤ r.1 ∧ (∀ x, x ∈ seg → x.1 ≤ 17 ∧ x.2 ≤ 999) ∧ ∀ st : List Bool, st.length + 2 ≤ 30 → runL seg (false :: st) = some (false :: st) := by
  intro k
  induction k with
  | zero =>
    intro q c hq
    refine ⟨fun e he => (by cases he), fun r hr => ?_⟩
    have e : (q, c) = r := Sum.inr.inj hr
    subst e
    exact ⟨hq, Nat.le_refl _, [], (List.append_nil c).symm, by show 0 + q ≤ q; omega, fun x hx => absurd hx List.not_mem_nil, fun st _ => rfl⟩
  | succ k ih =>
    intro q c hq
    unfold pSumL
    by_cases s : sgP b n q 43
    · rw [if_pos s]
      obtain ⟨n1, t1⟩ := sg_nx s
      obtain ⟨g1, g2⟩ := g_part (b := b) (n := n) (tb b n (q + 1)) c n1
      cases hp : pPart b n (tb b n (q + 1)) c with
      | inl e1 =>
        refine ⟨fun e he => ?_, fun r hr => by cases hr⟩
        rw [← Sum.inl.inj he]
        exact g1 e1 hp
      | inr r1 =>
        obtain ⟨a1, a2, s1, a3, a4, a5, a6, a7⟩ := g2 r1 hp
        obtain ⟨i1, i2⟩ := ih r1.1 (r1.2 ++ [(12, 0)]) a1
        refine ⟨i1, fun r hr => ?_⟩
        obtain ⟨c1, c2, s2, c3, c4, c5, c6⟩ := i2 r hr
        refine ⟨c1, by omega, s1 ++ ([(12, 0)] ++ s2), ?_, ?_, ?_, fun st hs => ?_⟩
        · rw [c3, a3, List.append_assoc, List.append_assoc]
        · rw [List.length_append, List.length_append]
          show s1.length + (1 + s2.length) + q ≤ r.1
          omega
        · intro x hx
          rw [List.mem_append, List.mem_append, List.mem_singleton] at hx
          rcases hx with h | h | h
          · exact a6 x h
          · rw [h]; exact ⟨by decide, by decide⟩
          · exact c5 x h
        · rw [runL_app _ (a7 (false :: st) (by show st.length + 1 + 1 ≤ 30; omega)), runL_app _ (runL_one (step_12 st) (by show st.length + 1 ≤ 30; omega))]
          exact c6 st hs
    · rw [if_neg s]
      refine ⟨fun e he => (by cases he), fun r hr => ?_⟩
      have e : (q, c) = r := Sum.inr.inj hr
      subst e
      exact ⟨hq, Nat.le_refl _, [], (List.append_nil c).symm, by show 0 + q ≤ q; omega, fun x hx => absurd hx List.not_mem_nil, fun st _ => rfl⟩
theorem g_sum : gP b n false 2 (pSum b n) := by
  intro q c hq
  obtain ⟨g1, g2⟩ := g_part (b := b) (n := n) q c hq
  unfold pSum
  cases hp : pPart b n q c with
  | inl e1 =>
    refine ⟨fun e he => ?_, fun r hr => by cases hr⟩
    rw [← Sum.inl.inj he]
    exact g1 e1 hp
  | inr r1 =>
    obtain ⟨a1, a2, s1, a3, a4, a5, a6, a7⟩ := g2 r1 hp
    obtain ⟨i1, i2⟩ := g_sumL (b := b) (n := n) (n + 1) r1.1 r1.2 a1
    refine ⟨i1, fun r hr => ?_⟩
    obtain ⟨c1, c2, s2, c3, c4, c5, c6⟩ := i2 r hr
    refine ⟨c1, by omega, s1 ++ s2, ?_, ?_, ?_, ?_, fun st hs => ?_⟩
    · rw [c3, a3, List.append_assoc]
    · rw [List.length_append]; omega
    · rw [List.length_append]; omega
    · intro x hx
      rw [List.mem_append] at hx
      rcases hx with h | h
      · exact a6 x h
      · exact c5 x h
    · rw [runL_app _ (a7 st (by omega))]
      exact c6 st hs
theorem g_cmp {s : Nat} (hs : s = 13 ∨ s = 14) {q c0 : Nat} {c : List zSt} (h : sgP b n q c0) : (∀ e, pCmp b n s q c = .inl e → e ≤ n) ∧ ∀ r, pCmp b n s q c = .inr r → nbl b n r.1 ∧ q < r.1 ∧ ∃ seg : List zSt, r.2 = c ++ seg ∧ seg.length + q ≤ r.1 ∧ (∀ x, x ∈ seg → x.1 ≤ 17 ∧ x.2 ≤ 999) ∧ ∀ st : List Bool, st.length + 3 ≤ 30 → runL seg (false :: st) = some (true :: st) := by
  obtain ⟨n1, t1⟩ := sg_nx h
  obtain ⟨g1, g2⟩ := g_sum (b := b) (n := n) (tb b n (q + 1)) c n1
  unfold pCmp
  cases hp : pSum b n (tb b n (q + 1)) c with
  | inl e1 =>
    refine ⟨fun e he => ?_, fun r hr => by cases hr⟩
    rw [← Sum.inl.inj he]
    exact g1 e1 hp
  | inr r1 =>
    obtain ⟨a1, a2, s1, a3, a4, a5, a6, a7⟩ := g2 r1 hp
    refine ⟨fun e he => (by cases he), fun r hr => ?_⟩
    have e : (r1.1, r1.2 ++ [(s, 0)]) = r := Sum.inr.inj hr
    subst e
    refine ⟨a1, ?_, s1 ++ [(s, 0)], ?_, ?_, ?_, fun st hst => ?_⟩
    · show q < r1.1; omega
    · show r1.2 ++ [(s, 0)] = _
      rw [a3, List.append_assoc]
    · rw [List.length_append]
      show s1.length + 1 + q ≤ r1.1
      omega
    · intro x hx
      rw [List.mem_append, List.mem_singleton] at hx
      rcases hx with h | h
      · exact a6 x h
      · rw [h]; exact ⟨by show s ≤ 17; omega, Nat.zero_le _⟩
    · rw [runL_app _ (a7 (false :: st) (by show st.length + 1 + 2 ≤ 30; omega))]
      exact runL_one (step_13 hs st) (by show st.length + 1 ≤ 30; omega)
theorem g_rest : gP b n true 3 (pRest b n) := by
  intro q c hq
  unfold pRest
  cases ht : pTag b n q with
  | some k =>
    have f := tag_le ht
    have w2 := wE_hi (b := b) hq.1
    have t := tb_le (b := b) (n := n) (p := wE b n q)
    refine ⟨fun e he => (by cases he), fun r hr => ?_⟩
    have e : (tb b n (wE b n q), c ++ [(k, 0)]) = r := Sum.inr.inj hr
    subst e
    refine ⟨nbl_tb w2, ?_, [(k, 0)], rfl, ?_, Nat.zero_lt_one, fun x hx => ?_, fun st hs => runL_one (step_tag f.1 st) ?_⟩
    · show q < tb b n (wE b n q); omega
    · show 1 + q ≤ tb b n (wE b n q); omega
    · rw [List.mem_singleton] at hx
      rw [hx]
      exact ⟨by show k ≤ 17; omega, Nat.zero_le _⟩
    · show st.length + 1 ≤ 30; omega
  | none =>
    obtain ⟨g1, g2⟩ := g_sum (b := b) (n := n) q c hq
    cases hp : pSum b n q c with
    | inl e1 =>
      refine ⟨fun e he => ?_, fun r hr => by cases hr⟩
      rw [← Sum.inl.inj he]
      exact g1 e1 hp
    | inr r1 =>
      obtain ⟨a1, a2, s1, a3, a4, a5, a6, a7⟩ := g2 r1 hp
      have both : ∀ s c0, (s = 13 ∨ s = 14) → sgP b n r1.1 c0 → (∀ e, pCmp b n s r1.1 r1.2 = .inl e → e ≤ n) ∧ ∀ r, pCmp b n s r1.1 r1.2 = .inr r → nbl b n r.1 ∧ q < r.1 ∧ ∃ seg : List zSt, r.2 = c ++ seg ∧ seg.length + q ≤ r.1 ∧ 0 < seg.length ∧ (∀ x, x ∈ seg → x.1 ≤ 17 ∧ x.2 ≤ 999) ∧ ∀ st : List Bool, st.length + 3 ≤ 30 → runL seg st = some (true :: st) := by
        intro s c0 hs hc
        obtain ⟨d1, d2⟩ := g_cmp (c := r1.2) hs hc
        refine ⟨d1, fun r hr => ?_⟩
        obtain ⟨c1, c2, s2, c3, c4, c5, c6⟩ := d2 r hr
        refine ⟨c1, by omega, s1 ++ s2, ?_, ?_, ?_, ?_, fun st hst => ?_⟩
        · rw [c3, a3, List.append_assoc]
        · rw [List.length_append]; omega
        · rw [List.length_append]; omega
        · intro x hx
          rw [List.mem_append] at hx
          rcases hx with h | h
          · exact a6 x h
          · exact c5 x h
        · rw [runL_app _ (a7 st (by omega))]
          exact c6 st hst
      by_cases y1 : sgP b n r1.1 60
      · have e0 : (if sgP b n r1.1 60 then pCmp b n 13 r1.1 r1.2 else if sgP b n r1.1 62 then pCmp b n 14 r1.1 r1.2 else Sum.inl r1.1) = pCmp b n 13 r1.1 r1.2 := if_pos y1
        exact ⟨fun e he => (both 13 60 (Or.inl rfl) y1).1 e (e0.symm.trans he), fun r hr => (both 13 60 (Or.inl rfl) y1).2 r (e0.symm.trans hr)⟩
      · by_cases y2 : sgP b n r1.1 62
        · have e0 : (if sgP b n r1.1 60 then pCmp b n 13 r1.1 r1.2 else if sgP b n r1.1 62 then pCmp b n 14 r1.1 r1.2 else Sum.inl r1.1) = pCmp b n 14 r1.1 r1.2 := by rw [if_neg y1, if_pos y2]
          exact ⟨fun e he => (both 14 62 (Or.inr rfl) y2).1 e (e0.symm.trans he), fun r hr => (both 14 62 (Or.inr rfl) y2).2 r (e0.symm.trans hr)⟩
        · have e0 : (if sgP b n r1.1 60 then pCmp b n 13 r1.1 r1.2 else if sgP b n r1.1 62 then pCmp b n 14 r1.1 r1.2 else Sum.inl r1.1) = Sum.inl r1.1 := by rw [if_neg y1, if_neg y2]
          refine ⟨fun e he => ?_, fun r hr => by cases e0.symm.trans hr⟩
          rw [← Sum.inl.inj (e0.symm.trans he)]
          exact a1.1
theorem g_loop {A : Nat → List zSt → zRs} {w s K : Nat} (hA : gP b n true K A) (hs : s = 16 ∨ s = 17) (hl : 0 < zLitL.getD w 0) : ∀ k q c, nbl b n q → (∀ e, pLoop b n A w s k q c = .inl e → e ≤ n) ∧ ∀ r, pLoop b n A w s k q c = .inr r → nbl b n r.1 ∧ q ≤ r.1 ∧ ∃ seg : List zSt, r.2 = c ++ seg ∧ seg.length + q ≤ r.1 ∧ (∀ x, x ∈ seg → x.1 ≤ 17 ∧ x.2 ≤ 999) ∧ ∀ st : List Bool, st.length + (K + 1) ≤ 30 → runL seg (true :: st) = some (true :: st) := by
  intro k
  induction k with
  | zero =>
    intro q c hq
    refine ⟨fun e he => (by cases he), fun r hr => ?_⟩
    have e : (q, c) = r := Sum.inr.inj hr
    subst e
    exact ⟨hq, Nat.le_refl _, [], (List.append_nil c).symm, by show 0 + q ≤ q; omega, fun x hx => absurd hx List.not_mem_nil, fun st _ => rfl⟩
  | succ k ih =>
    intro q c hq
    unfold pLoop
    by_cases y : wdP b n q w
    · rw [if_pos y]
      obtain ⟨n1, t1⟩ := wd_nx hq hl y
      obtain ⟨g1, g2⟩ := hA (tb b n (wE b n q)) c n1
      cases hp : A (tb b n (wE b n q)) c with
      | inl e1 =>
        refine ⟨fun e he => ?_, fun r hr => by cases hr⟩
        rw [← Sum.inl.inj he]
        exact g1 e1 hp
      | inr r1 =>
        obtain ⟨a1, a2, s1, a3, a4, a5, a6, a7⟩ := g2 r1 hp
        obtain ⟨i1, i2⟩ := ih r1.1 (r1.2 ++ [(s, 0)]) a1
        refine ⟨i1, fun r hr => ?_⟩
        obtain ⟨c1, c2, s2, c3, c4, c5, c6⟩ := i2 r hr
        refine ⟨c1, by omega, s1 ++ ([(s, 0)] ++ s2), ?_, ?_, ?_, fun st hst => ?_⟩
        · rw [c3, a3, List.append_assoc, List.append_assoc]
        · rw [List.length_append, List.length_append]
          show s1.length + (1 + s2.length) + q ≤ r.1
          omega
        · intro x hx
          rw [List.mem_append, List.mem_append, List.mem_singleton] at hx
          rcases hx with h | h | h
          · exact a6 x h
          · rw [h]; exact ⟨by show s ≤ 17; omega, Nat.zero_le _⟩
          · exact c5 x h
        · rw [runL_app _ (a7 (true :: st) (by show st.length + 1 + K ≤ 30; omega)), runL_app _ (runL_one (step_16 hs st) (by show st.length + 1 ≤ 30; omega))]
          exact c6 st hst
    · rw [if_neg y]
      refine ⟨fun e he => (by cases he), fun r hr => ?_⟩
      have e : (q, c) = r := Sum.inr.inj hr
      subst e
      exact ⟨hq, Nat.le_refl _, [], (List.append_nil c).symm, by show 0 + q ≤ q; omega, fun x hx => absurd hx List.not_mem_nil, fun st _ => rfl⟩
theorem g_seq {A : Nat → List zSt → zRs} {w s K : Nat} (hA : gP b n true K A) (hs : s = 16 ∨ s = 17) (hl : 0 < zLitL.getD w 0) : gP b n true (K + 1) (pSeq b n A w s) := by
  intro q c hq
  obtain ⟨g1, g2⟩ := hA q c hq
  unfold pSeq
  cases hp : A q c with
  | inl e1 =>
    refine ⟨fun e he => ?_, fun r hr => by cases hr⟩
    rw [← Sum.inl.inj he]
    exact g1 e1 hp
  | inr r1 =>
    obtain ⟨a1, a2, s1, a3, a4, a5, a6, a7⟩ := g2 r1 hp
    obtain ⟨i1, i2⟩ := g_loop hA hs hl (n + 1) r1.1 r1.2 a1
    refine ⟨i1, fun r hr => ?_⟩
    obtain ⟨c1, c2, s2, c3, c4, c5, c6⟩ := i2 r hr
    refine ⟨c1, by omega, s1 ++ s2, ?_, ?_, ?_, ?_, fun st hst => ?_⟩
    · rw [c3, a3, List.append_assoc]
    · rw [List.length_append]; omega
    · rw [List.length_append]; omega
    · intro x hx
      rw [List.mem_append] at hx
      rcases hx with h | h
      · exact a6 x h
      · exact c5 x h
    · rw [runL_app _ (a7 st (by omega))]
      exact c6 st hst
theorem g_cond {A : Nat → List zSt → zRs} {K : Nat} (hA : gP b n true K A) : gP b n true (K + 2) (pCond b n A) := g_seq (g_seq hA (Or.inl rfl) (by decide)) (Or.inr rfl) (by decide)
theorem gP.mono {A : Nat → List zSt → zRs} {v : Bool} {K K' : Nat} (h : gP b n v K A) (hk : K ≤ K') : gP b n v K' A := by
  intro q c hq
  obtain ⟨g1, g2⟩ := h q c hq
  refine ⟨g1, fun r hr => ?_⟩
  obtain ⟨a1, a2, s1, a3, a4, a5, a6, a7⟩ := g2 r hr
  exact ⟨a1, a2, s1, a3, a4, a5, a6, fun st hst => a7 st (by omega)⟩
theorem g_atom : ∀ r, gP b n true (3 + 2 * r) (pAtom b n r)
  | 0 => by
    intro q c hq
    have e0 : pAtom b n 0 q c = if sgP b n q 40 ∨ wdP b n q 22 then Sum.inl q else pRest b n q c := rfl
    rw [e0]
    by_cases y : sgP b n q 40 ∨ wdP b n q 22
    · rw [if_pos y]
      refine ⟨fun e he => ?_, fun r hr => by cases hr⟩
      rw [← Sum.inl.inj he]
      exact hq.1
    · rw [if_neg y]
      exact g_rest q c hq
  | r + 1 => by
    have ih := g_atom r
    intro q c hq
    have e0 : pAtom b n (r + 1) q c = if sgP b n q 40 then pParen b n (pAtom b n r) q c else if wdP b n q 22 then pNot b n (pAtom b n r) q c else pRest b n q c := rfl
    rw [e0]
    by_cases y : sgP b n q 40
    · rw [if_pos y]
      obtain ⟨n1, t1⟩ := sg_nx y
      obtain ⟨g1, g2⟩ := g_cond ih (tb b n (q + 1)) c n1
      unfold pParen
      cases hp : pCond b n (pAtom b n r) (tb b n (q + 1)) c with
      | inl e1 =>
        refine ⟨fun e he => ?_, fun r hr => by cases hr⟩
        rw [← Sum.inl.inj he]
        exact g1 e1 hp
      | inr r1 =>
        obtain ⟨a1, a2, s1, a3, a4, a5, a6, a7⟩ := g2 r1 hp
        by_cases y2 : sgP b n r1.1 41
        · have e1 : (if sgP b n r1.1 41 then Sum.inr (tb b n (r1.1 + 1), r1.2) else Sum.inl r1.1 : zRs) = Sum.inr (tb b n (r1.1 + 1), r1.2) := if_pos y2
          obtain ⟨n2, t2⟩ := sg_nx y2
          refine ⟨fun e he => (by cases e1.symm.trans he), fun r' hr => ?_⟩
          have e : (tb b n (r1.1 + 1), r1.2) = r' := Sum.inr.inj (e1.symm.trans hr)
          subst e
          refine ⟨n2, ?_, s1, a3, ?_, a5, a6, fun st hst => a7 st (by omega)⟩
          · show q < tb b n (r1.1 + 1); omega
          · show s1.length + q ≤ tb b n (r1.1 + 1); omega
        · have e1 : (if sgP b n r1.1 41 then Sum.inr (tb b n (r1.1 + 1), r1.2) else Sum.inl r1.1 : zRs) = Sum.inl r1.1 := if_neg y2
          refine ⟨fun e he => ?_, fun r hr => by cases e1.symm.trans hr⟩
          rw [← Sum.inl.inj (e1.symm.trans he)]
          exact a1.1
    · rw [if_neg y]
      by_cases y2 : wdP b n q 22
      · rw [if_pos y2]
        obtain ⟨n1, t1⟩ := wd_nx hq (by decide) y2
        obtain ⟨g1, g2⟩ := ih (tb b n (wE b n q)) c n1
        unfold pNot
        cases hp : pAtom b n r (tb b n (wE b n q)) c with
        | inl e1 =>
          refine ⟨fun e he => ?_, fun r hr => by cases hr⟩
          rw [← Sum.inl.inj he]
          exact g1 e1 hp
        | inr r1 =>
          obtain ⟨a1, a2, s1, a3, a4, a5, a6, a7⟩ := g2 r1 hp
          refine ⟨fun e he => (by cases he), fun r' hr => ?_⟩
          have e : (r1.1, r1.2 ++ [(15, 0)]) = r' := Sum.inr.inj hr
          subst e
          refine ⟨a1, ?_, s1 ++ [(15, 0)], ?_, ?_, ?_, ?_, fun st hst => ?_⟩
          · show q < r1.1; omega
          · show r1.2 ++ [(15, 0)] = _
            rw [a3, List.append_assoc]
          · rw [List.length_append]
            show s1.length + 1 + q ≤ r1.1
            omega
          · rw [List.length_append]
            show 0 < s1.length + 1
            omega
          · intro x hx
            rw [List.mem_append, List.mem_singleton] at hx
            rcases hx with h | h
            · exact a6 x h
            · rw [h]; exact ⟨by decide, by decide⟩
          · rw [runL_app _ (a7 st (by omega))]
            exact runL_one (step_15 st) (by show st.length + 1 ≤ 30; omega)
      · rw [if_neg y2]
        exact (g_rest.mono (by omega)) q c hq
end GP
