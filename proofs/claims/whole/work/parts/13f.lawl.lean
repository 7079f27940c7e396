/-! ===== lines of the law ===== -/
abbrev zLt : Type := Nat × Nat × Nat × Nat
def pLine (b : Nat → Nat) (n q : Nat) (c : List zSt) : Sum Nat (Nat × Nat × Nat × List zSt) := match pKind b n q with
  | none => .inl q
  | some k => match nuF b n (tb b n (wE b n q)) 0 99 with
    | none => .inl (tb b n (wE b n q))
    | some v => if wdP b n (tb b n (dE b n (tb b n (wE b n q)))) 21 then (match pCond b n (pAtom b n 6) (tb b n (wE b n (tb b n (dE b n (tb b n (wE b n q)))))) c with
      | .inl e => .inl e
      | .inr r => .inr (r.1, k, v, r.2)) else .inr (tb b n (dE b n (tb b n (wE b n q))), k, v, c)
def pLawL (b : Nat → Nat) (n : Nat) : Nat → Nat → List zSt → List zLt → Sum Nat (List zLt × List zSt)
  | 0, q, _, _ => .inl q
  | k + 1, q, c, ls => match pLine b n q c with
    | .inl e => .inl e
    | .inr r => if r.1 = n then .inr (ls ++ [(r.2.1, r.2.2.1, c.length, r.2.2.2.length)], r.2.2.2) else if sgP b n r.1 59 then pLawL b n k (tb b n (r.1 + 1)) r.2.2.2 (ls ++ [(r.2.1, r.2.2.1, c.length, r.2.2.2.length)]) else .inl r.1
def pLaw (b : Nat → Nat) (n : Nat) : Sum Nat (List zLt × List zSt) := if tb b n 0 = n then .inr ([], []) else pLawL b n 12 (tb b n 0) [] []
section LINES
variable {b : Nat → Nat} {n : Nat}
theorem line_k {q : Nat} {c : List zSt} (h : pKind b n q = none) : pLine b n q c = .inl q := by unfold pLine; rw [h]
theorem line_v {q k : Nat} {c : List zSt} (h : pKind b n q = some k) (h2 : nuF b n (tb b n (wE b n q)) 0 99 = none) : pLine b n q c = .inl (tb b n (wE b n q)) := by unfold pLine; rw [h, h2]
theorem line_n {q k v : Nat} {c : List zSt} (h : pKind b n q = some k) (h2 : nuF b n (tb b n (wE b n q)) 0 99 = some v) (h3 : ¬ wdP b n (tb b n (dE b n (tb b n (wE b n q)))) 21) : pLine b n q c = .inr (tb b n (dE b n (tb b n (wE b n q))), k, v, c) := by
  unfold pLine
  rw [h, h2]
  exact if_neg h3
theorem line_e {q k v e : Nat} {c : List zSt} (h : pKind b n q = some k) (h2 : nuF b n (tb b n (wE b n q)) 0 99 = some v) (h3 : wdP b n (tb b n (dE b n (tb b n (wE b n q)))) 21) (h4 : pCond b n (pAtom b n 6) (tb b n (wE b n (tb b n (dE b n (tb b n (wE b n q)))))) c = .inl e) : pLine b n q c = .inl e := by
  unfold pLine
  rw [h, h2]
  show (if _ then _ else _) = _
  rw [if_pos h3, h4]
theorem line_r {q k v : Nat} {c : List zSt} {r : Nat × List zSt} (h : pKind b n q = some k) (h2 : nuF b n (tb b n (wE b n q)) 0 99 = some v) (h3 : wdP b n (tb b n (dE b n (tb b n (wE b n q)))) 21) (h4 : pCond b n (pAtom b n 6) (tb b n (wE b n (tb b n (dE b n (tb b n (wE b n q)))))) c = .inr r) : pLine b n q c = .inr (r.1, k, v, r.2) := by
  unfold pLine
  rw [h, h2]
  show (if _ then _ else _) = _
  rw [if_pos h3, h4]
theorem line_p {q : Nat} {c : List zSt} (hq : nbl b n q) : (∀ e, pLine b n q c = .inl e → e ≤ n) ∧ ∀ r, pLine b n q c = .inr r → nbl b n r.1 ∧ q < r.1 ∧ r.2.1 ≤ 2 ∧ r.2.2.1 ≤ 99 ∧ ∃ seg : List zSt, r.2.2.2 = c ++ seg ∧ seg.length + q ≤ r.1 ∧ (∀ x, x ∈ seg → x.1 ≤ 17 ∧ x.2 ≤ 999) ∧ (0 < seg.length → runL seg [] = some [true]) := by
  cases hk : pKind b n q with
  | none =>
    rw [line_k hk]
    refine ⟨fun e he => ?_, fun r hr => by cases hr⟩
    rw [← Sum.inl.inj he]; exact hq.1
  | some k =>
    have f := kind_le hk
    have w2 := wE_hi (b := b) hq.1
    have n1 := nbl_tb (b := b) w2
    have t1 := tb_le (b := b) (n := n) (p := wE b n q)
    cases hv : nuF b n (tb b n (wE b n q)) 0 99 with
    | none =>
      rw [line_v hk hv]
      refine ⟨fun e he => ?_, fun r hr => by cases hr⟩
      rw [← Sum.inl.inj he]; exact n1.1
    | some v =>
      have g := nuF_some hv
      have d2 := dE_hi (b := b) n1.1
      have n2 := nbl_tb (b := b) d2
      have t2 := tb_le (b := b) (n := n) (p := dE b n (tb b n (wE b n q)))
      by_cases y : wdP b n (tb b n (dE b n (tb b n (wE b n q)))) 21
      · obtain ⟨n3, t3⟩ := wd_nx n2 (by decide) y
        obtain ⟨g1, g2⟩ := g_cond (g_atom 6) (tb b n (wE b n (tb b n (dE b n (tb b n (wE b n q)))))) c n3
        cases hc : pCond b n (pAtom b n 6) (tb b n (wE b n (tb b n (dE b n (tb b n (wE b n q)))))) c with
        | inl e1 =>
          rw [line_e hk hv y hc]
          refine ⟨fun e he => ?_, fun r hr => by cases hr⟩
          rw [← Sum.inl.inj he]; exact g1 e1 hc
        | inr r1 =>
          rw [line_r hk hv y hc]
          refine ⟨fun e he => (by cases he), fun r hr => ?_⟩
          have e : (r1.1, k, v, r1.2) = r := Sum.inr.inj hr
          subst e
          obtain ⟨a1, a2, s1, a3, a4, a5, a6, a7⟩ := g2 r1 hc
          exact ⟨a1, by show q < r1.1; omega, f.1, g.2.2, s1, a3, by show s1.length + q ≤ r1.1; omega, a6, fun _ => a7 [] (by decide)⟩
      · rw [line_n hk hv y]
        refine ⟨fun e he => (by cases he), fun r hr => ?_⟩
        have e : (tb b n (dE b n (tb b n (wE b n q))), k, v, c) = r := Sum.inr.inj hr
        subst e
        refine ⟨n2, ?_, f.1, g.2.2, [], (List.append_nil c).symm, ?_, fun x hx => absurd hx List.not_mem_nil, fun z => absurd z (by decide)⟩
        · show q < tb b n (dE b n (tb b n (wE b n q))); omega
        · show 0 + q ≤ tb b n (dE b n (tb b n (wE b n q))); omega
abbrev lnZ : zLt := (0, 0, 0, 0)
/-- lines and steps as they may be -/
def gL (ls : List zLt) (c : List zSt) : Prop := (∀ x, x ∈ c → x.1 ≤ 17 ∧ x.2 ≤ 999) ∧ ((if ls.length = 0 then 0 else (ls.getD (ls.length - 1) lnZ).2.2.2) = c.length) ∧ ∀ i, i < ls.length → (ls.getD i lnZ).1 ≤ 2 ∧ (ls.getD i lnZ).2.1 ≤ 99 ∧ (ls.getD i lnZ).2.2.1 = (if i = 0 then 0 else (ls.getD (i - 1) lnZ).2.2.2) ∧ (ls.getD i lnZ).2.2.1 ≤ (ls.getD i lnZ).2.2.2 ∧ (ls.getD i lnZ).2.2.2 ≤ c.length ∧ ((ls.getD i lnZ).2.2.1 < (ls.getD i lnZ).2.2.2 → runL ((c.drop (ls.getD i lnZ).2.2.1).take ((ls.getD i lnZ).2.2.2 - (ls.getD i lnZ).2.2.1)) [] = some [true])
theorem gL_nil : gL [] [] := ⟨fun x hx => absurd hx List.not_mem_nil, rfl, fun i hi => absurd hi (Nat.not_lt_zero i)⟩
theorem gL_add {ls : List zLt} {c seg : List zSt} {k v : Nat} (h : gL ls c) (hk : k ≤ 2) (hv : v ≤ 99) (hs : ∀ x, x ∈ seg → x.1 ≤ 17 ∧ x.2 ≤ 999) (hr : 0 < seg.length → runL seg [] = some [true]) : gL (ls ++ [(k, v, c.length, (c ++ seg).length)]) (c ++ seg) := by
  obtain ⟨h1, h2, h3⟩ := h
  refine ⟨fun x hx => ?_, ?_, fun i hi => ?_⟩
  · rw [List.mem_append] at hx
    exact hx.elim (h1 x) (hs x)
  · rw [len_1, if_neg (Nat.succ_ne_zero _), Nat.add_sub_cancel, getD_r]
  · rw [len_1] at hi
    by_cases ci : i = ls.length
    · subst ci
      rw [getD_r]
      refine ⟨hk, hv, ?_, ?_, Nat.le_refl _, fun z => ?_⟩
      · show c.length = _
        rw [← h2]
        by_cases c0 : ls.length = 0
        · rw [if_pos c0, if_pos c0]
        · rw [if_neg c0, if_neg c0, getD_l (by omega)]
      · show c.length ≤ (c ++ seg).length
        rw [List.length_append]; omega
      · show runL (((c ++ seg).drop c.length).take ((c ++ seg).length - c.length)) [] = some [true]
        have z' : c.length < (c ++ seg).length := z
        rw [List.length_append] at z' ⊢
        rw [List.drop_left, Nat.add_sub_cancel_left, List.take_length]
        exact hr (by omega)
    · obtain ⟨a1, a2, a3, a4, a5, a6⟩ := h3 i (by omega)
      have eg : (ls ++ [(k, v, c.length, (c ++ seg).length)]).getD i lnZ = ls.getD i lnZ := getD_l (by omega)
      have eg1 : (ls ++ [(k, v, c.length, (c ++ seg).length)]).getD (i - 1) lnZ = ls.getD (i - 1) lnZ := getD_l (by omega)
      rw [eg, eg1]
      refine ⟨a1, a2, a3, a4, by rw [List.length_append]; omega, fun z => ?_⟩
      rw [List.drop_append_of_le_length (by omega), List.take_append_of_le_length (by rw [List.length_drop]; omega)]
      exact a6 z
theorem lawL_p : ∀ (k : Nat) {q : Nat} {c : List zSt} {ls : List zLt}, nbl b n q → c.length ≤ q → ls.length + k ≤ 12 → gL ls c → (∀ e, pLawL b n k q c ls = .inl e → e ≤ n) ∧ ∀ r, pLawL b n k q c ls = .inr r → gL r.1 r.2 ∧ r.1.length ≤ 12 ∧ r.2.length ≤ n
  | 0, q, c, ls, hq, hc, hl, hg => by
    refine ⟨fun e he => ?_, fun r hr => by cases hr⟩
    have e1 : q = e := Sum.inl.inj he
    rw [← e1]; exact hq.1
  | k + 1, q, c, ls, hq, hc, hl, hg => by
    obtain ⟨g1, g2⟩ := line_p (c := c) hq
    unfold pLawL
    cases hp : pLine b n q c with
    | inl e1 =>
      refine ⟨fun e he => ?_, fun r hr => by cases hr⟩
      rw [← Sum.inl.inj he]; exact g1 e1 hp
    | inr r1 =>
      obtain ⟨a1, a2, a3, a4, s1, a5, a6, a7, a8⟩ := g2 r1 hp
      have gn := gL_add hg a3 a4 a7 a8
      rw [← a5] at gn
      have r4 := a1.1
      have ln : r1.2.2.2.length ≤ r1.1 := by rw [a5, List.length_append]; omega
      by_cases y1 : r1.1 = n
      · have e0 : (if r1.1 = n then Sum.inr (ls ++ [(r1.2.1, r1.2.2.1, c.length, r1.2.2.2.length)], r1.2.2.2) else if sgP b n r1.1 59 then pLawL b n k (tb b n (r1.1 + 1)) r1.2.2.2 (ls ++ [(r1.2.1, r1.2.2.1, c.length, r1.2.2.2.length)]) else Sum.inl r1.1 : Sum Nat (List zLt × List zSt)) = Sum.inr (ls ++ [(r1.2.1, r1.2.2.1, c.length, r1.2.2.2.length)], r1.2.2.2) := if_pos y1
        refine ⟨fun e he => (by cases e0.symm.trans he), fun r hr => ?_⟩
        have e := Sum.inr.inj (e0.symm.trans hr)
        subst e
        exact ⟨gn, by rw [len_1]; omega, by show r1.2.2.2.length ≤ n; omega⟩
      · by_cases y2 : sgP b n r1.1 59
        · have e0 : (if r1.1 = n then Sum.inr (ls ++ [(r1.2.1, r1.2.2.1, c.length, r1.2.2.2.length)], r1.2.2.2) else if sgP b n r1.1 59 then pLawL b n k (tb b n (r1.1 + 1)) r1.2.2.2 (ls ++ [(r1.2.1, r1.2.2.1, c.length, r1.2.2.2.length)]) else Sum.inl r1.1 : Sum Nat (List zLt × List zSt)) = pLawL b n k (tb b n (r1.1 + 1)) r1.2.2.2 (ls ++ [(r1.2.1, r1.2.2.1, c.length, r1.2.2.2.length)]) := by rw [if_neg y1, if_pos y2]
          obtain ⟨n1, n2⟩ := sg_nx y2
          obtain ⟨i1, i2⟩ := lawL_p k n1 (by omega) (by rw [len_1]; omega) gn
          exact ⟨fun e he => i1 e (e0.symm.trans he), fun r hr => i2 r (e0.symm.trans hr)⟩
        · have e0 : (if r1.1 = n then Sum.inr (ls ++ [(r1.2.1, r1.2.2.1, c.length, r1.2.2.2.length)], r1.2.2.2) else if sgP b n r1.1 59 then pLawL b n k (tb b n (r1.1 + 1)) r1.2.2.2 (ls ++ [(r1.2.1, r1.2.2.1, c.length, r1.2.2.2.length)]) else Sum.inl r1.1 : Sum Nat (List zLt × List zSt)) = Sum.inl r1.1 := by rw [if_neg y1, if_neg y2]
          refine ⟨fun e he => ?_, fun r hr => by cases e0.symm.trans hr⟩
          rw [← Sum.inl.inj (e0.symm.trans he)]; exact r4
theorem lawL_e {k q e : Nat} {c : List zSt} {ls : List zLt} (h : pLine b n q c = .inl e) : pLawL b n (k + 1) q c ls = .inl e := by rw [pLawL, h]
theorem lawL_r {k q : Nat} {c : List zSt} {ls : List zLt} {r : Nat × Nat × Nat × List zSt} (h : pLine b n q c = .inr r) : pLawL b n (k + 1) q c ls = if r.1 = n then .inr (ls ++ [(r.2.1, r.2.2.1, c.length, r.2.2.2.length)], r.2.2.2) else if sgP b n r.1 59 then pLawL b n k (tb b n (r.1 + 1)) r.2.2.2 (ls ++ [(r.2.1, r.2.2.1, c.length, r.2.2.2.length)]) else .inl r.1 := by rw [pLawL, h]
theorem law_p : (∀ e, pLaw b n = .inl e → e ≤ n) ∧ ∀ r, pLaw b n = .inr r → gL r.1 r.2 ∧ r.1.length ≤ 12 ∧ r.2.length ≤ n := by
  unfold pLaw
  by_cases y : tb b n 0 = n
  · rw [if_pos y]
    refine ⟨fun e he => (by cases he), fun r hr => ?_⟩
    have e : (([] : List zLt), ([] : List zSt)) = r := Sum.inr.inj hr
    subst e
    exact ⟨gL_nil, Nat.zero_le _, Nat.zero_le _⟩
  · rw [if_neg y]
    exact lawL_p 12 (nbl_tb (Nat.zero_le n)) (Nat.zero_le _) (Nat.le_refl _) gL_nil
/-! the class -/
def llC (b : Nat → Nat) (n : Nat) (M0 M : zM) (q : Nat) (ls : List zLt) (c : List zSt) : Prop := tkC M b n q ∧ zpi M = zpi M0 ∧ M.1 22 6 = nI ls.length ∧ M.1 22 7 = nI c.length ∧ (∀ i, i < c.length → M.1 26 i = stC (c.getD i (0, 0))) ∧ ∀ i, i < ls.length → M.1 23 i = nI (ls.getD i lnZ).1 ∧ M.1 24 i = nI (ls.getD i lnZ).2.1 ∧ M.1 25 i = nI (ls.getD i lnZ).2.2.2
theorem llC.off {q q' : Nat} {ls : List zLt} {c : List zSt} {M0 M M' : zM} (h : llC b n M0 M q ls c) (ho : off20 M' M) (hk : tkC M' b n q') : llC b n M0 M' q' ls c := by
  obtain ⟨h1, h2, h3, h4, h5, h6⟩ := h
  refine ⟨hk, ho.pi.trans h2, by rw [ho.1 22 6 (by omega)]; exact h3, by rw [ho.1 22 7 (by omega)]; exact h4, fun i hi => by rw [ho.1 26 i (by omega)]; exact h5 i hi, fun i hi => ?_⟩
  rw [ho.1 23 i (by omega), ho.1 24 i (by omega), ho.1 25 i (by omega)]
  exact h6 i hi
theorem llC.line {q q' k v : Nat} {ls : List zLt} {c c' : List zSt} {M0 M M1 M2 : zM} (h : llC b n M0 M q ls c) (h2 : zpi M1 = zpi M0) (h23 : ∀ j, M1.1 23 j = if j = ls.length then nI k else M.1 23 j) (h24 : ∀ j, M1.1 24 j = if j = ls.length then nI v else M.1 24 j) (h25 : ∀ j, M1.1 25 j = if j = ls.length then nI c.length else M.1 25 j) (hI : lcI b n M1 M2 (ls.length + 1) q' c') : llC b n M0 M2 q' (ls ++ [(k, v, c.length, c'.length)]) c' := by
  obtain ⟨a1, a2, a3, a4, a5, a6, a7⟩ := hI
  refine ⟨a1, a2.trans h2, by rw [len_1]; exact a3, a4, a5, fun i hi => ?_⟩
  rw [len_1] at hi
  rw [(a6 i).1, (a6 i).2, a7 i, h23 i, h24 i, h25 i]
  by_cases ci : i = ls.length
  · rw [if_pos ci, if_pos ci, if_pos (by omega), ci, getD_r]
    exact ⟨rfl, rfl, rfl⟩
  · rw [if_neg ci, if_neg ci, if_neg (by omega), if_neg ci, getD_l (by omega)]
    exact h.2.2.2.2.2 i (by omega)
section LINEC
variable {E : zEv} {D : Nat} {px : String → zM → Prop} {M M0 : zM} {q : Nat} {c : List zSt} {ls : List zLt}
theorem s_X6_begin {post : zM → Prop} {k v : Nat} (hI : llC b n M0 M q ls c) (hl : ls.length < 12) (hp : ∀ M', lcI b n M' M' (ls.length + 1) q c → zpi M' = zpi M0 → (∀ j, M'.1 23 j = if j = ls.length then nI k else M.1 23 j) → (∀ j, M'.1 24 j = if j = ls.length then nI v else M.1 24 j) → (∀ j, M'.1 25 j = if j = ls.length then nI c.length else M.1 25 j) → post M') : zCv E jX6_begin D 0 [.ref 22, .int (nI k), .int (nI v)] M post px := by
  obtain ⟨h1, h2, h3, h4, h5, h6⟩ := hI
  refine e_X6_begin ⟨fun z => absurd z (by rw [h3]; exact nI_pos (by omega)), fun _ => pk_lt ls.length 12 (fun _ => ⟨pk_in ls.length _ hl h3, fun M9 e9 => ?_⟩) (fun z => absurd z (by omega)) h3⟩
  rw [h3, nI_clamp (by omega)] at e9
  have b6 : M9.1 22 6 = nI ls.length := by rw [e9, zup_o (by decide)]; exact h3
  refine ⟨pk_in ls.length _ hl b6, fun M13 e13 => ?_⟩
  rw [b6, nI_clamp (by omega)] at e13
  have c6 : M13.1 22 6 = nI ls.length := by rw [e13, zup_o (by decide)]; exact b6
  have c7 : M13.1 22 7 = nI c.length := by rw [e13, zup_o (by decide), e9, zup_o (by decide)]; exact h4
  refine ⟨pk_in ls.length _ hl c6, fun M17 e17 M19 e19 => ?_⟩
  rw [c6, c7, nI_clamp (by omega)] at e17
  have d6 : M17.1 22 6 = nI ls.length := by rw [e17, zup_o (by decide)]; exact c6
  rw [d6, nI_1] at e19
  have all : ∀ o j, o ≠ 23 → o ≠ 24 → o ≠ 25 → ¬ (o = 22 ∧ j = 6) → M19.1 o j = M.1 o j := fun o j g1 g2 g3 g4 => by rw [e19, zup_n (by omega), e17, zup_o g3, e13, zup_o g2, e9, zup_o g1]
  have z19 : zpi M19 = zpi M0 := by rw [e19, zpi_up rfl, e17, zpi_up rfl, e13, zpi_up rfl, e9, zpi_up rfl]; exact h2
  have x23 : ∀ j, M19.1 23 j = if j = ls.length then nI k else M.1 23 j := fun j => by
    rw [e19, zup_o (by decide), e17, zup_o (by decide), e13, zup_o (by decide), e9]
    by_cases cj : j = ls.length
    · rw [if_pos cj, cj, zup_s]
    · rw [if_neg cj, zup_n (Or.inr cj)]
  have x24 : ∀ j, M19.1 24 j = if j = ls.length then nI v else M.1 24 j := fun j => by
    rw [e19, zup_o (by decide), e17, zup_o (by decide), e13]
    by_cases cj : j = ls.length
    · rw [if_pos cj, cj, zup_s]
    · rw [if_neg cj, zup_n (Or.inr cj), e9, zup_o (by decide)]
  have x25 : ∀ j, M19.1 25 j = if j = ls.length then nI c.length else M.1 25 j := fun j => by
    rw [e19, zup_o (by decide), e17]
    by_cases cj : j = ls.length
    · rw [if_pos cj, cj, zup_s]
    · rw [if_neg cj, zup_n (Or.inr cj), e13, zup_o (by decide), e9, zup_o (by decide)]
  refine hp M19 ⟨⟨by rw [all 20 3 (by decide) (by decide) (by decide) (by omega)]; exact h1.1, by rw [all 20 2 (by decide) (by decide) (by decide) (by omega)]; exact h1.2.1, by rw [all 20 4 (by decide) (by decide) (by decide) (by omega)]; exact h1.2.2.1, h1.2.2.2⟩, rfl, by rw [e19, zup_s], by rw [all 22 7 (by decide) (by decide) (by decide) (by omega)]; exact h4, fun i hi => by rw [all 26 i (by decide) (by decide) (by decide) (by omega)]; exact h5 i hi, fun j => ⟨rfl, rfl⟩, fun j => ?_⟩ z19 x23 x24 x25
  by_cases cj : j + 1 = ls.length + 1
  · rw [if_pos cj, x25 j, if_pos (by omega)]
  · rw [if_neg cj]
theorem s_X6_readLine {post : Int32 → zM → Prop} (hn : n ≤ 400) (ht : tcC M0 b n) (hI : llC b n M0 M q ls c) (hl : ls.length < 12) (hc : c.length ≤ q) (h0 : ∀ e, pLine b n q c = .inl e → ∀ M', M'.1 20 3 = nI e → zpi M' = zpi M0 → post 0 M') (h1 : ∀ r, pLine b n q c = .inr r → ∀ M', llC b n M0 M' r.1 (ls ++ [(r.2.1, r.2.2.1, c.length, r.2.2.2.length)]) r.2.2.2 → post 1 M') : zCi E jX6_readLine (D + 34) 0 [.ref 22, .ref 20] M post px := by
  have nb := hI.1.2.2.2
  have qn := nb.1
  refine e_X6_readLine (s_X6_kindHere (ht.pi hI.2.1) hI.1 (fun k hk => ?_) (fun hk => ⟨fun z => absurd rfl z, fun _ => h0 q (line_k hk) M hI.1.1 hI.2.1⟩))
  have f := kind_le hk
  have w2 := wE_hi (b := b) qn
  have n1 := nbl_tb (b := b) w2
  have t1 := tb_le (b := b) (n := n) (p := wE b n q)
  refine ⟨fun _ => s_X9_at (ht.pi hI.2.1) hI.1 f.2 (fun M7 t7 o7 => ?_), fun z => absurd z (nI_m1 (by omega))⟩
  have hI7 := hI.off o7 t7
  refine s_X9_takeNumber (lo := 0) (hi := 99) rfl rfl (by decide) (ht.pi hI7.2.1) hI7.1 (fun v hv M9 t9 o9 => ?_) (fun hv => ⟨fun z => absurd rfl z, fun _ => h0 _ (line_v hk hv) M7 hI7.1.1 hI7.2.1⟩)
  have g := nuF_some hv
  have hI9 := hI7.off o9 t9
  have d2 := dE_hi (b := b) n1.1
  have n2 := nbl_tb (b := b) d2
  have t2 := tb_le (b := b) (n := n) (p := dE b n (tb b n (wE b n q)))
  refine ⟨fun _ => s_X6_begin hI9 hl (fun M15 a1 a2 a3 a4 a5 => ?_), fun z => absurd z (nI_m1 (by omega))⟩
  have ht15 : tcC M15 b n := ht.pi a2
  refine s_X9_takeWord (w := 21) (by decide) (by decide) ht15 a1.1 (fun y M17 t17 o17 => z1B ?_) (fun y => z0A (t_X6_readLine_55 (t_X6_readLine_60 ⟨Or.inr rfl, h1 _ (line_n hk hv y) M15 (hI9.line a2 a3 a4 a5 a1)⟩)))
  obtain ⟨n3, t3⟩ := wd_nx n2 (by decide) y
  refine c_any hn (g_atom 6) (by omega) (c_atom hn 6 (by decide)) E _ px M15 M17 (ls.length + 1) _ c _ (by omega) ht15 (by omega) (a1.off o17 t17) (by omega) (fun e he M' b1 b2 => z0A (t_X6_readLine_60 ⟨Or.inl rfl, h0 e (line_e hk hv y he) M' b1 (b2.trans a2)⟩)) (fun r hr M' b1 => z1B (t_X6_readLine_55 (t_X6_readLine_60 ⟨Or.inr rfl, h1 _ (line_r hk hv y hr) M' (hI9.line a2 a3 a4 a5 b1)⟩)))
theorem s_X6_read {post : Int32 → zM → Prop} (ht : tcC M b n) (h0 : ∀ e, pLaw b n = .inl e → ∀ M', M'.1 20 3 = nI e → zpi M' = zpi M → post 0 M') (h1 : ∀ r, pLaw b n = .inr r → ∀ M' q, llC b n M M' q r.1 r.2 → post 1 M') : zCi E jX6_read (D + 35) 0 [.ref 22, .ref 20] M post px := by
  have hn := ht.1
  refine e_X6_read (fun M1 e1 M3 e3 => ?_)
  have z3 : zpi M3 = zpi M := by rw [e3, zpi_up rfl, e1, zpi_up rfl]
  refine s_X9_open (ht.pi z3) (fun M5 t5 o5 => ?_)
  have hI5 : llC b n M M5 (tb b n 0) [] [] := ⟨t5, o5.pi.trans z3, by rw [o5.1 22 6 (by omega), e3, zup_n (Or.inr (by decide)), e1, zup_s]; rfl, by rw [o5.1 22 7 (by omega), e3, zup_s]; rfl, fun i hi => absurd hi (Nat.not_lt_zero i), fun i hi => absurd hi (Nat.not_lt_zero i)⟩
  have loop : ∀ (k : Nat) {M' : zM} {q : Nat} {c : List zSt} {ls : List zLt}, ls.length + k = 12 → c.length ≤ q → llC b n M M' q ls c → (∀ e, pLawL b n k q c ls = .inl e → ∀ M', M'.1 20 3 = nI e → zpi M' = zpi M → post 0 M') → (∀ r, pLawL b n k q c ls = .inr r → ∀ M' q, llC b n M M' q r.1 r.2 → post 1 M') → w_X6_read_25 E (D + 34) post px (nI ls.length) M' := by
    intro k
    induction k with
    | zero =>
      intro M' q c ls hk hc hI h0 h1
      exact t_X6_read_25 (pk_le 12 ls.length (fun _ => h0 q rfl M' hI.1.1 hI.2.1) (fun z => absurd z (by omega)))
    | succ k ih =>
      intro M' q c ls hk hc hI h0 h1
      have nb := hI.1.2.2.2
      refine t_X6_read_25 (pk_le 12 ls.length (fun z => absurd z (by omega)) (fun _ => s_X6_readLine hn ht hI (by omega) hc (fun e he M4 b1 b2 => z0B (h0 e (lawL_e he) M4 b1 b2)) (fun r hr M4 hI4 => z1A ?_)))
      obtain ⟨a1, a2, a3, a4, s1, a5, a6, a7, a8⟩ := (line_p nb).2 r hr
      have ln : r.2.2.2.length ≤ r.1 := by rw [a5, List.length_append]; omega
      have e0 := lawL_r (k := k) (ls := ls) hr
      refine s_X9_isEnd hI4.1 (fun y => z1B ?_) (fun y => z0A ?_)
      · rw [if_pos y] at e0
        exact h1 _ e0 M4 r.1 hI4
      · rw [if_neg (by omega)] at e0
        refine s_X9_takeSign (c := 59) rfl (by decide) (ht.pi hI4.2.1) hI4.1 (fun s M16 t16 o16 => z1A ?_) (fun s => z0B ?_)
        · rw [if_pos s] at e0
          obtain ⟨n1, n2⟩ := sg_nx s
          have := ih (by rw [len_1]; omega) (by omega) (hI4.off o16 t16) (fun e he => h0 e (e0.trans he)) (fun r' hr' => h1 r' (e0.trans hr'))
          rw [len_1] at this
          rw [nI_1]
          exact this
        · rw [if_neg s] at e0
          exact h0 _ e0 M4 hI4.1.1 hI4.2.1
  refine s_X9_isEnd t5 (fun y => z1B ?_) (fun y => z0A ?_)
  · exact h1 ([], []) (if_pos y) M5 _ hI5
  · have e0 : pLaw b n = pLawL b n 12 (tb b n 0) [] [] := if_neg (by omega)
    exact loop 12 (ls := []) rfl (Nat.zero_le _) hI5 (fun e he => h0 e (e0.trans he)) (fun r hr => h1 r (e0.trans hr))
end LINEC
end LINES
