/-! ===== the law read by the class ===== -/
def stC (x : zSt) : Int32 := stepC (nI x.1) (nI x.2)
theorem stC_lt {k m : Nat} (h : k < 11) : stC (k, m) = -1 - nI k := if_pos (nI_lt (a := k) (b := 11) h (by decide))
theorem stC_11 {m : Nat} : stC (11, m) = nI m := by
  have h1 : ¬ nI (11, m).1 < 11 := by
    show ¬ nI 11 < 11
    decide +kernel
  have h2 : nI (11, m).1 = 11 := rfl
  unfold stC stepC
  rw [if_neg h1, if_pos h2]
theorem getD_l {α : Type} {c d : List α} {i : Nat} {z : α} (h : i < c.length) : (c ++ d).getD i z = c.getD i z := by
  rw [List.getD_eq_getElem?_getD, List.getElem?_append_left h, ← List.getD_eq_getElem?_getD]
theorem getD_r {α : Type} {c : List α} {x z : α} : (c ++ [x]).getD c.length z = x := by
  rw [List.getD_eq_getElem?_getD, List.getElem?_append_right (Nat.le_refl _), Nat.sub_self]
  rfl
theorem len_1 {α : Type} {c : List α} {x : α} : (c ++ [x]).length = c.length + 1 := by
  rw [List.length_append]; rfl
/-- the draft holds the steps c, in the line l - 1 that is read; all else is as in M0 -/
def lcI (b : Nat → Nat) (n : Nat) (M0 M : zM) (l q : Nat) (c : List zSt) : Prop := tkC M b n q ∧ zpi M = zpi M0 ∧ M.1 22 6 = nI l ∧ M.1 22 7 = nI c.length ∧ (∀ i, i < c.length → M.1 26 i = stC (c.getD i (0, 0))) ∧ (∀ j, M.1 23 j = M0.1 23 j ∧ M.1 24 j = M0.1 24 j) ∧ ∀ j, M.1 25 j = if j + 1 = l then nI c.length else M0.1 25 j
theorem lcI.off {b : Nat → Nat} {n l q q' : Nat} {c : List zSt} {M0 M M' : zM} (h : lcI b n M0 M l q c) (ho : off20 M' M) (hk : tkC M' b n q') : lcI b n M0 M' l q' c := by
  obtain ⟨h1, h2, h3, h4, h5, h6, h7⟩ := h
  refine ⟨hk, ho.pi.trans h2, by rw [ho.1 22 6 (by omega)]; exact h3, by rw [ho.1 22 7 (by omega)]; exact h4, fun i hi => by rw [ho.1 26 i (by omega)]; exact h5 i hi, fun j => ?_, fun j => by rw [ho.1 25 j (by omega)]; exact h7 j⟩
  rw [ho.1 23 j (by omega), ho.1 24 j (by omega)]
  exact h6 j
section LAWC
variable {b : Nat → Nat} {n : Nat}
section STEPS
variable {E : zEv} {D : Nat} {px : String → zM → Prop} {M M0 : zM} {q l : Nat} {c : List zSt}
theorem s_X6_addStep {post : zM → Prop} {x : zSt} {v : Int32} (hv : v = stC x) (h : lcI b n M0 M l q c) (hc : c.length < 400) (hl : 1 ≤ l ∧ l ≤ 12) (hp : ∀ M', lcI b n M0 M' l q (c ++ [x]) → post M') : zCv E jX6_addStep D 0 [.ref 22, .int v] M post px := by
  obtain ⟨h1, h2, h3, h4, h5, h6, h7⟩ := h
  refine e_X6_addStep (pk_le 400 c.length (fun z => absurd z (by omega)) (fun _ => pk_le 1 l (fun _ => ⟨pk_in c.length _ hc h4, fun M9 e9 M11 e11 => ?_⟩) (fun z => absurd z (by omega)) rfl h3) rfl h4)
  rw [h4, nI_clamp (by omega)] at e9
  have a7 : M9.1 22 7 = nI c.length := by rw [e9, zup_o (by decide)]; exact h4
  rw [a7, nI_1] at e11
  have a6 : M11.1 22 6 = nI l := by rw [e11, zup_n (Or.inr (by decide)), e9, zup_o (by decide)]; exact h3
  have al : M11.1 22 6 - 1 = nI (l - 1) := by rw [a6]; exact pk_pred (by omega)
  rw [al]
  refine ⟨pk_in (l - 1) _ (by omega), fun M15 e15 => hp M15 ?_⟩
  have b7 : M11.1 22 7 = nI (c.length + 1) := by rw [e11, zup_s]
  rw [nI_clamp (n := l - 1) (by omega), b7] at e15
  have o15 : ∀ o j, o ≠ 25 → o ≠ 26 → ¬ (o = 22 ∧ j = 7) → M15.1 o j = M.1 o j := fun o j g1 g2 g3 => by rw [e15, zup_o g1, e11, zup_n (by omega), e9, zup_o g2]
  refine ⟨⟨by rw [o15 20 3 (by decide) (by decide) (by omega)]; exact h1.1, by rw [o15 20 2 (by decide) (by decide) (by omega)]; exact h1.2.1, by rw [o15 20 4 (by decide) (by decide) (by omega)]; exact h1.2.2.1, h1.2.2.2⟩, ?_, ?_, ?_, fun i hi => ?_, fun j => ?_, fun j => ?_⟩
  · rw [e15, zpi_up rfl, e11, zpi_up rfl, e9, zpi_up rfl]; exact h2
  · rw [o15 22 6 (by decide) (by decide) (by omega)]; exact h3
  · rw [e15, zup_o (by decide), b7, len_1]
  · rw [e15, zup_o (by decide), e11, zup_o (by decide), e9]
    rw [len_1] at hi
    by_cases c1 : i = c.length
    · rw [c1, zup_s, getD_r]; exact hv
    · rw [zup_n (Or.inr c1), getD_l (by omega)]; exact h5 i (by omega)
  · rw [o15 23 j (by decide) (by decide) (by omega), o15 24 j (by decide) (by decide) (by omega)]; exact h6 j
  · rw [e15, len_1]
    by_cases c1 : j + 1 = l
    · rw [if_pos c1, show j = l - 1 by omega, zup_s]
    · rw [if_neg c1, zup_n (Or.inr (by omega)), e11, zup_o (by decide), e9, zup_o (by decide), h7 j, if_neg c1]
theorem s_X6_factHere {post : Int32 → zM → Prop} (ht : tcC M b n) (hk : tkC M b n q) (h1 : ∀ k, pFact b n q = some k → post (nI k) M) (h0 : pFact b n q = none → post (-1) M) : zCi E jX6_factHere (D + 5) 0 [.ref 20] M post px := by
  exact e_X6_factHere (s_X9_isWord (w := 0) (by decide) (by decide) ht hk (fun z => z1B (h1 0 (by unfold pFact; rw [if_pos z]))) (fun y0 => z0A (s_X9_isWord (w := 1) (by decide) (by decide) ht hk (fun z => z1B (h1 1 (by unfold pFact; rw [if_neg y0, if_pos z]))) (fun y1 => z0A (s_X9_isWord (w := 2) (by decide) (by decide) ht hk (fun z => z1B (h1 2 (by unfold pFact; rw [if_neg y0, if_neg y1, if_pos z]))) (fun y2 => z0A (s_X9_isWord (w := 3) (by decide) (by decide) ht hk (fun z => z1B (h1 3 (by unfold pFact; rw [if_neg y0, if_neg y1, if_neg y2, if_pos z]))) (fun y3 => z0A (s_X9_isWord (w := 4) (by decide) (by decide) ht hk (fun z => z1B (h1 4 (by unfold pFact; rw [if_neg y0, if_neg y1, if_neg y2, if_neg y3, if_pos z]))) (fun y4 => z0A (s_X9_isWord (w := 12) (by decide) (by decide) ht hk (fun z => z1B (h1 5 (by unfold pFact; rw [if_neg y0, if_neg y1, if_neg y2, if_neg y3, if_neg y4, if_pos z]))) (fun y5 => z0A (s_X9_isWord (w := 6) (by decide) (by decide) ht hk (fun z => z1B (h1 6 (by unfold pFact; rw [if_neg y0, if_neg y1, if_neg y2, if_neg y3, if_neg y4, if_neg y5, if_pos z]))) (fun y6 => z0A (s_X9_isWord (w := 26) (by decide) (by decide) ht hk (fun z => z1B (t_X6_factHere_93 (h1 7 (by unfold pFact; rw [if_neg y0, if_neg y1, if_neg y2, if_neg y3, if_neg y4, if_neg y5, if_neg y6, if_pos z])))) (fun y7 => z0A (t_X6_factHere_93 (h0 (by unfold pFact; rw [if_neg y0, if_neg y1, if_neg y2, if_neg y3, if_neg y4, if_neg y5, if_neg y6, if_neg y7])))))))))))))))))))
def pKind (b : Nat → Nat) (n q : Nat) : Option Nat := if wdP b n q 18 then some 0 else if wdP b n q 19 then some 1 else if wdP b n q 20 then some 2 else none
theorem s_X6_kindHere {post : Int32 → zM → Prop} (ht : tcC M b n) (hk : tkC M b n q) (h1 : ∀ k, pKind b n q = some k → post (nI k) M) (h0 : pKind b n q = none → post (-1) M) : zCi E jX6_kindHere (D + 5) 0 [.ref 20] M post px := by
  exact e_X6_kindHere (s_X9_isWord (w := 18) (by decide) (by decide) ht hk (fun z => z1B (h1 0 (by unfold pKind; rw [if_pos z]))) (fun y0 => z0A (s_X9_isWord (w := 19) (by decide) (by decide) ht hk (fun z => z1B (h1 1 (by unfold pKind; rw [if_neg y0, if_pos z]))) (fun y1 => z0A (s_X9_isWord (w := 20) (by decide) (by decide) ht hk (fun z => z1B (t_X6_kindHere_36 (h1 2 (by unfold pKind; rw [if_neg y0, if_neg y1, if_pos z])))) (fun y2 => z0A (t_X6_kindHere_36 (h0 (by unfold pKind; rw [if_neg y0, if_neg y1, if_neg y2])))))))))
theorem kind_le {k : Nat} (h : pKind b n q = some k) : k ≤ 2 ∧ q < wE b n q := by
  unfold pKind at h
  split at h
  · rename_i c; rw [← Option.some.inj h]; exact ⟨by decide, wd_w (by decide) c⟩
  · split at h
    · rename_i c; rw [← Option.some.inj h]; exact ⟨by decide, wd_w (by decide) c⟩
    · split at h
      · rename_i c; rw [← Option.some.inj h]; exact ⟨by decide, wd_w (by decide) c⟩
      · cases h
theorem s_X9_at {post : zM → Prop} (ht : tcC M b n) (hk : tkC M b n q) (hw : q < wE b n q) (h1 : ∀ M', tkC M' b n (tb b n (wE b n q)) → off20 M' M → post M') : zCv E jX9_advance D 0 [.ref 20] M post px :=
  s_X9_advance ht (p := wE b n q) (by rw [hk.2.2.1, be_w hw]) (wE_hi hk.2.2.2.1) h1
end STEPS
/-- a method of the class reads what A reads -/
def okC (b : Nat → Nat) (n h : Nat) (J : zJ) (as : List Value) (A : Nat → List zSt → zRs) : Prop := ∀ (E : zEv) (D : Nat) (px : String → zM → Prop) (M0 M : zM) (l q : Nat) (c : List zSt) (post : Int32 → zM → Prop), h ≤ D → tcC M0 b n → 1 ≤ l ∧ l ≤ 12 → lcI b n M0 M l q c → c.length < q → (∀ e, A q c = .inl e → ∀ M', M'.1 20 3 = nI e → zpi M' = zpi M0 → post 0 M') → (∀ r, A q c = .inr r → ∀ M', lcI b n M0 M' l r.1 r.2 → post 1 M') → zCi E J D 0 as M post px
/-- one more part of a sum -/
def pMore (b : Nat → Nat) (n i k q : Nat) (c : List zSt) : zRs := match pPart b n q c with
  | .inl e => .inl e
  | .inr r => pSumL b n k r.1 (if i = 0 then r.2 else r.2 ++ [(12, 0)])
theorem more_e {i k q e : Nat} {c : List zSt} (h : pPart b n q c = .inl e) : pMore b n i k q c = .inl e := by unfold pMore; rw [h]
theorem more_r {i k q : Nat} {c : List zSt} {r : Nat × List zSt} (h : pPart b n q c = .inr r) : pMore b n i k q c = pSumL b n k r.1 (if i = 0 then r.2 else r.2 ++ [(12, 0)]) := by unfold pMore; rw [h]
theorem part_f {q k : Nat} {c : List zSt} (h : pFact b n q = some k) : pPart b n q c = .inr (tb b n (wE b n q), c ++ [(k, 0)]) := by unfold pPart; rw [h]
theorem part_v {q v : Nat} {c : List zSt} (h : pFact b n q = none) (h2 : nuF b n q 0 999 = some v) : pPart b n q c = .inr (tb b n (dE b n q), c ++ [(11, v)]) := by unfold pPart; rw [h, h2]
theorem part_n {q : Nat} {c : List zSt} (h : pFact b n q = none) (h2 : nuF b n q 0 999 = none) : pPart b n q c = .inl q := by unfold pPart; rw [h, h2]
theorem sumL_y {k q : Nat} {c : List zSt} (h : sgP b n q 43) (i : Nat) : pSumL b n (k + 1) q c = pMore b n (i + 1) k (tb b n (q + 1)) c := by
  rw [pSumL, if_pos h]
  unfold pMore
  rfl
theorem sumL_n {k q : Nat} {c : List zSt} (h : ¬ sgP b n q 43) : pSumL b n (k + 1) q c = .inr (q, c) := by rw [pSumL, if_neg h]
theorem seg_len {q : Nat} {c : List zSt} {r : Nat × List zSt} {A : Nat → List zSt → zRs} {v : Bool} {K : Nat} (hg : gP b n v K A) (hq : nbl b n q) (h : A q c = .inr r) : nbl b n r.1 ∧ q < r.1 ∧ r.2.length + q ≤ c.length + r.1 := by
  obtain ⟨a1, a2, s, a3, a4, -⟩ := (hg q c hq).2 r h
  refine ⟨a1, a2, ?_⟩
  rw [a3, List.length_append]
  omega
theorem s_X6_sumL (hn : n ≤ 400) : ∀ (k : Nat) {E : zEv} {D : Nat} {px : String → zM → Prop} {M0 M : zM} {i l q : Nat} {c : List zSt} {post : Int32 → zM → Prop}, n < q + k → i < q → tcC M0 b n → 1 ≤ l ∧ l ≤ 12 → lcI b n M0 M l q c → c.length + (if i = 0 then 0 else 1) < q → (∀ e, pMore b n i k q c = .inl e → ∀ M', M'.1 20 3 = nI e → zpi M' = zpi M0 → post 0 M') → (∀ r, pMore b n i k q c = .inr r → ∀ M', lcI b n M0 M' l r.1 r.2 → post 1 M') → w_X6_readSum_2 E (D + 5) post px (nI i) M := by
  intro k
  induction k with
  | zero =>
    intro E D px M0 M i l q c post hk hi ht hl hI hc h0 h1
    have := hI.1.2.2.2.1
    omega
  | succ k ih =>
    intro E D px M0 M i l q c post hk hi ht hl hI hc h0 h1
    have nb := hI.1.2.2.2
    have qn := nb.1
    have htM : tcC M b n := ht.pi hI.2.1
    -- behind a part
    have go : ∀ (r : Nat × List zSt) (M7 : zM), pPart b n q c = .inr r → lcI b n M0 M7 l r.1 r.2 → w_X6_readSum_69 E (D + 5) post px (nI i) M7 := by
      intro r M7 hr hI7
      obtain ⟨a1, a2, a3⟩ := seg_len g_part nb hr
      have r4 := a1.1
      have e0 := more_r (i := i) (k := k + 1) hr
      have last : ∀ (c2 : List zSt) (M4 : zM), c2 = (if i = 0 then r.2 else r.2 ++ [(12, 0)]) → lcI b n M0 M4 l r.1 c2 → w_X6_readSum_79 E (D + 5) post px (nI i) M4 := by
        intro c2 M4 hc2 hI4
        rw [← hc2] at e0
        have len : c2.length < r.1 := by
          rw [hc2]
          by_cases i0 : i = 0
          · rw [if_pos i0] at hc ⊢; omega
          · rw [if_neg i0] at hc ⊢
            rw [len_1]; omega
        refine t_X6_readSum_79 (s_X9_takeSign (c := 43) rfl (by decide) (ht.pi hI4.2.1) hI4.1 (fun s M1 t1 o1 => z1A ?_) (fun s => z0B ?_))
        · rw [nI_1]
          rw [sumL_y s i] at e0
          obtain ⟨n1, n2⟩ := sg_nx s
          refine ih (by omega) (by omega) ht hl (hI4.off o1 t1) ?_ (fun e he => h0 e (e0.trans he)) (fun r' hr' => h1 r' (e0.trans hr'))
          rw [if_neg (Nat.succ_ne_zero i)]
          omega
        · rw [sumL_n s] at e0
          exact h1 _ e0 M4 hI4
      refine t_X6_readSum_69 (pk_le i 0 (fun z => last r.2 M7 ?_ hI7) (fun z => s_X6_addStep (x := (12, 0)) (by decide +kernel) hI7 ?_ hl (fun M4 h4 => last _ M4 ?_ h4)))
      · rw [if_pos (by omega)]
      · by_cases i0 : i = 0
        · omega
        · rw [if_neg i0] at hc; omega
      · rw [if_neg (by omega)]
    have c400 : c.length < 400 := by
      have : c.length < q := by omega
      omega
    refine t_X6_readSum_2 (pk_le 400 i (fun z => absurd z (by omega)) (fun _ => s_X6_factHere htM hI.1 (fun kf hf => ?_) (fun hf => ?_)))
    · have f := fact_le hf
      refine ⟨fun _ => t_X6_readSum_31 ⟨fun z => absurd z (nI_m1 (by omega)), fun _ => s_X9_at htM hI.1 f.2 (fun M9 t9 o9 => s_X6_addStep (x := (kf, 0)) (stC_lt (by omega)).symm (hI.off o9 t9) c400 hl (fun M11 h11 => go _ M11 (part_f hf) h11))⟩, fun z => absurd z (nI_m1 (by omega))⟩
    · refine ⟨fun z => absurd rfl z, fun _ => s_X9_takeNumber (lo := 0) (hi := 999) rfl rfl (by decide) htM hI.1 (fun v hv M' t' o' => ?_) (fun hv => ?_)⟩
      · have v1 := nuF_some hv
        exact t_X6_readSum_31 ⟨fun _ => ⟨fun z => absurd z (nI_m1 (by omega)), fun _ => s_X6_addStep (x := (11, v)) stC_11.symm (hI.off o' t') c400 hl (fun M7 h7 => go _ M7 (part_v hf hv) h7)⟩, fun z => absurd rfl z⟩
      · exact t_X6_readSum_31 ⟨fun _ => ⟨fun _ => h0 q (more_e (part_n hf hv)) M hI.1.1 hI.2.1, fun z => absurd rfl z⟩, fun z => absurd rfl z⟩
theorem c_sum (hn : n ≤ 400) : okC b n 6 jX6_readSum [.ref 22, .ref 20] (pSum b n) := by
  intro E D px M0 M l q c post hD ht hl hI hc h0 h1
  obtain ⟨D1, rfl⟩ : ∃ D1, D = D1 + 6 := ⟨D - 6, by omega⟩
  have e0 : pSum b n q c = pMore b n 0 (n + 1) q c := by unfold pSum pMore; rfl
  rw [e0] at h0 h1
  exact e_X6_readSum (s_X6_sumL hn (n + 1) (i := 0) (by omega) (by omega) ht hl hI (by rw [if_pos rfl]; omega) h0 h1)
theorem loop_y {A : Nat → List zSt → zRs} {w s k q : Nat} {c : List zSt} (h : wdP b n q w) : pLoop b n A w s (k + 1) q c = match A (tb b n (wE b n q)) c with | .inl e => .inl e | .inr r => pLoop b n A w s k r.1 (r.2 ++ [(s, 0)]) := by
  rw [pLoop, if_pos h]
  rfl
theorem loop_n {A : Nat → List zSt → zRs} {w s k q : Nat} {c : List zSt} (h : ¬ wdP b n q w) : pLoop b n A w s (k + 1) q c = .inr (q, c) := by rw [pLoop, if_neg h]
theorem seq_e {A : Nat → List zSt → zRs} {w s q e : Nat} {c : List zSt} (h : A q c = .inl e) : pSeq b n A w s q c = .inl e := by unfold pSeq; rw [h]
theorem seq_r {A : Nat → List zSt → zRs} {w s q : Nat} {c : List zSt} {r : Nat × List zSt} (h : A q c = .inr r) : pSeq b n A w s q c = pLoop b n A w s (n + 1) r.1 r.2 := by unfold pSeq; rw [h]
theorem c_readAll {A : Nat → List zSt → zRs} {K h : Nat} {x : Int32} (hn : n ≤ 400) (hg : gP b n true K A) (h5 : 5 ≤ h) (hA : okC b n h jX6_readAtom [.ref 22, .ref 20, .int x] A) : okC b n (h + 1) jX6_readAll [.ref 22, .ref 20, .int x] (pSeq b n A 27 16) := by
  intro E D px M0 M l q c post hD ht hl hI hc h0 h1
  obtain ⟨D1, rfl⟩ : ∃ D1, D = D1 + 6 := ⟨D - 6, by omega⟩
  have loop : ∀ (k : Nat) {M : zM} {i q : Nat} {c : List zSt}, n < q + k → i < q → lcI b n M0 M l q c → c.length < q → (∀ e, pLoop b n A 27 16 k q c = .inl e → ∀ M', M'.1 20 3 = nI e → zpi M' = zpi M0 → post 0 M') → (∀ r, pLoop b n A 27 16 k q c = .inr r → ∀ M', lcI b n M0 M' l r.1 r.2 → post 1 M') → w_X6_readAll_13 E (D1 + 5) post px x (nI i) M := by
    intro k
    induction k with
    | zero =>
      intro M i q c hk hi hI hc h0 h1
      have := hI.1.2.2.2.1
      omega
    | succ k ih =>
      intro M i q c hk hi hI hc h0 h1
      have nb := hI.1.2.2.2
      have qn := nb.1
      refine t_X6_readAll_13 (pk_le 400 i (fun z => absurd z (by omega)) (fun _ => s_X9_takeWord (w := 27) (by decide) (by decide) (ht.pi hI.2.1) hI.1 (fun y M4 t4 o4 => z1B ?_) (fun y => z0A (t_X6_readAll_52 (h1 _ (loop_n y) M hI)))))
      obtain ⟨n1, n2⟩ := wd_nx nb (by decide) y
      have e0 := loop_y (A := A) (s := 16) (k := k) (c := c) y
      refine hA E _ px M0 M4 l _ c _ (by omega) ht hl (hI.off o4 t4) (by omega) (fun e he M' a1 a2 => z0B (h0 e (by rw [e0, he]) M' a1 a2)) (fun r hr M' a1 => z1A ?_)
      obtain ⟨b1, b2, b3⟩ := seg_len hg n1 hr
      have r4 := b1.1
      rw [hr] at e0
      refine s_X6_addStep (x := (16, 0)) (by decide +kernel) a1 (by omega) hl (fun M16 h16 => ?_)
      rw [nI_1]
      exact ih (by omega) (by omega) h16 (by rw [len_1]; omega) (fun e he => h0 e (e0.trans he)) (fun r' hr' => h1 r' (e0.trans hr'))
  refine e_X6_readAll (hA E _ px M0 M l q c _ (by omega) ht hl hI hc (fun e he M' a1 a2 => z0B (h0 e (seq_e he) M' a1 a2)) (fun r hr M' a1 => z1A ?_))
  obtain ⟨b1, b2, b3⟩ := seg_len hg hI.1.2.2.2 hr
  have e0 := seq_r (b := b) (n := n) (w := 27) (s := 16) hr
  exact loop (n + 1) (i := 0) (by omega) (by omega) a1 (by omega) (fun e he => h0 e (e0.trans he)) (fun r' hr' => h1 r' (e0.trans hr'))
theorem c_readAny {A : Nat → List zSt → zRs} {K h : Nat} {x : Int32} (hn : n ≤ 400) (hg : gP b n true K A) (h5 : 5 ≤ h) (hA : okC b n h jX6_readAll [.ref 22, .ref 20, .int x] A) : okC b n (h + 1) jX6_readAny [.ref 22, .ref 20, .int x] (pSeq b n A 28 17) := by
  intro E D px M0 M l q c post hD ht hl hI hc h0 h1
  obtain ⟨D1, rfl⟩ : ∃ D1, D = D1 + 6 := ⟨D - 6, by omega⟩
  have loop : ∀ (k : Nat) {M : zM} {i q : Nat} {c : List zSt}, n < q + k → i < q → lcI b n M0 M l q c → c.length < q → (∀ e, pLoop b n A 28 17 k q c = .inl e → ∀ M', M'.1 20 3 = nI e → zpi M' = zpi M0 → post 0 M') → (∀ r, pLoop b n A 28 17 k q c = .inr r → ∀ M', lcI b n M0 M' l r.1 r.2 → post 1 M') → w_X6_readAny_13 E (D1 + 5) post px x (nI i) M := by
    intro k
    induction k with
    | zero =>
      intro M i q c hk hi hI hc h0 h1
      have := hI.1.2.2.2.1
      omega
    | succ k ih =>
      intro M i q c hk hi hI hc h0 h1
      have nb := hI.1.2.2.2
      have qn := nb.1
      refine t_X6_readAny_13 (pk_le 400 i (fun z => absurd z (by omega)) (fun _ => s_X9_takeWord (w := 28) (by decide) (by decide) (ht.pi hI.2.1) hI.1 (fun y M4 t4 o4 => z1B ?_) (fun y => z0A (t_X6_readAny_52 (h1 _ (loop_n y) M hI)))))
      obtain ⟨n1, n2⟩ := wd_nx nb (by decide) y
      have e0 := loop_y (A := A) (s := 17) (k := k) (c := c) y
      refine hA E _ px M0 M4 l _ c _ (by omega) ht hl (hI.off o4 t4) (by omega) (fun e he M' a1 a2 => z0B (h0 e (by rw [e0, he]) M' a1 a2)) (fun r hr M' a1 => z1A ?_)
      obtain ⟨b1, b2, b3⟩ := seg_len hg n1 hr
      have r4 := b1.1
      rw [hr] at e0
      refine s_X6_addStep (x := (17, 0)) (by decide +kernel) a1 (by omega) hl (fun M16 h16 => ?_)
      rw [nI_1]
      exact ih (by omega) (by omega) h16 (by rw [len_1]; omega) (fun e he => h0 e (e0.trans he)) (fun r' hr' => h1 r' (e0.trans hr'))
  refine e_X6_readAny (hA E _ px M0 M l q c _ (by omega) ht hl hI hc (fun e he M' a1 a2 => z0B (h0 e (seq_e he) M' a1 a2)) (fun r hr M' a1 => z1A ?_))
  obtain ⟨b1, b2, b3⟩ := seg_len hg hI.1.2.2.2 hr
  have e0 := seq_r (b := b) (n := n) (w := 28) (s := 17) hr
  exact loop (n + 1) (i := 0) (by omega) (by omega) a1 (by omega) (fun e he => h0 e (e0.trans he)) (fun r' hr' => h1 r' (e0.trans hr'))
theorem c_any {A : Nat → List zSt → zRs} {K h : Nat} {x : Int32} (hn : n ≤ 400) (hg : gP b n true K A) (h5 : 5 ≤ h) (hA : okC b n h jX6_readAtom [.ref 22, .ref 20, .int x] A) : okC b n (h + 2) jX6_readAny [.ref 22, .ref 20, .int x] (pCond b n A) :=
  c_readAny hn (g_seq hg (Or.inl rfl) (by decide)) (by omega) (c_readAll hn hg h5 hA)
theorem paren_e {A : Nat → List zSt → zRs} {q e : Nat} {c : List zSt} (h : pCond b n A (tb b n (q + 1)) c = .inl e) : pParen b n A q c = .inl e := by unfold pParen; rw [h]
theorem paren_y {A : Nat → List zSt → zRs} {q : Nat} {c : List zSt} {r : Nat × List zSt} (h : pCond b n A (tb b n (q + 1)) c = .inr r) (y : sgP b n r.1 41) : pParen b n A q c = .inr (tb b n (r.1 + 1), r.2) := by
  unfold pParen
  rw [h]
  exact if_pos y
theorem paren_n {A : Nat → List zSt → zRs} {q : Nat} {c : List zSt} {r : Nat × List zSt} (h : pCond b n A (tb b n (q + 1)) c = .inr r) (y : ¬ sgP b n r.1 41) : pParen b n A q c = .inl r.1 := by
  unfold pParen
  rw [h]
  exact if_neg y
theorem not_e {A : Nat → List zSt → zRs} {q e : Nat} {c : List zSt} (h : A (tb b n (wE b n q)) c = .inl e) : pNot b n A q c = .inl e := by unfold pNot; rw [h]
theorem not_r {A : Nat → List zSt → zRs} {q : Nat} {c : List zSt} {r : Nat × List zSt} (h : A (tb b n (wE b n q)) c = .inr r) : pNot b n A q c = .inr (r.1, r.2 ++ [(15, 0)]) := by unfold pNot; rw [h]
theorem c_deeper {A : Nat → List zSt → zRs} {K h : Nat} {x : Int32} (hn : n ≤ 400) (hg : gP b n true K A) (h5 : 5 ≤ h) (hA : okC b n h jX6_readAtom [.ref 22, .ref 20, .int x] A) {E : zEv} {D : Nat} {px : String → zM → Prop} {M0 M : zM} {l q : Nat} {c : List zSt} {post : Int32 → zM → Prop} (hD : h + 3 ≤ D) (ht : tcC M0 b n) (hl : 1 ≤ l ∧ l ≤ 12) (hI : lcI b n M0 M l q c) (hc : c.length < q) (hw : sgP b n q 40 ∨ wdP b n q 22)
    (h0 : ∀ e, (if sgP b n q 40 then pParen b n A q c else pNot b n A q c) = .inl e → ∀ M', M'.1 20 3 = nI e → zpi M' = zpi M0 → post 0 M') (h1 : ∀ r, (if sgP b n q 40 then pParen b n A q c else pNot b n A q c) = .inr r → ∀ M', lcI b n M0 M' l r.1 r.2 → post 1 M') : zCi E jX6_readDeeper D 0 [.ref 22, .ref 20, .int x] M post px := by
  obtain ⟨D1, rfl⟩ : ∃ D1, D = D1 + 6 := ⟨D - 6, by omega⟩
  have nb := hI.1.2.2.2
  have qn := nb.1
  have htM : tcC M b n := ht.pi hI.2.1
  refine e_X6_readDeeper (s_X9_takeSign (c := 40) rfl (by decide) htM hI.1 (fun s M1 t1 o1 => z1B ?_) (fun s => z0A ?_))
  · rw [if_pos s] at h0 h1
    obtain ⟨n1, n2⟩ := sg_nx s
    refine c_any hn hg h5 hA E _ px M0 M1 l _ c _ (by omega) ht hl (hI.off o1 t1) (by omega) (fun e he M' a1 a2 => z0A (t_X6_readDeeper_31 (t_X6_readDeeper_32 ⟨Or.inl rfl, h0 e (paren_e he) M' a1 a2⟩))) (fun r hr M' a1 => z1B ?_)
    exact s_X9_takeSign (c := 41) rfl (by decide) (ht.pi a1.2.1) a1.1 (fun s2 M2 t2 o2 => z1B (t_X6_readDeeper_32 ⟨Or.inr rfl, h1 _ (paren_y hr s2) M2 (a1.off o2 t2)⟩)) (fun s2 => z0A (t_X6_readDeeper_31 (t_X6_readDeeper_32 ⟨Or.inl rfl, h0 _ (paren_n hr s2) M' a1.1.1 a1.2.1⟩)))
  · rw [if_neg s] at h0 h1
    have y : wdP b n q 22 := hw.resolve_left s
    obtain ⟨n1, n2⟩ := wd_nx nb (by decide) y
    refine s_X9_word (w := 22) (by decide) htM hI.1 y (fun M7 t7 o7 => ?_)
    refine hA E _ px M0 M7 l _ c _ (by omega) ht hl (hI.off o7 t7) (by omega) (fun e he M' a1 a2 => z0B (h0 e (not_e he) M' a1 a2)) (fun r hr M' a1 => z1A ?_)
    obtain ⟨b1, b2, b3⟩ := seg_len hg n1 hr
    have r4 := b1.1
    exact s_X6_addStep (x := (15, 0)) (by decide +kernel) a1 (by omega) hl (fun M15 h15 => h1 _ (not_r hr) M15 h15)
theorem rest_t {q t : Nat} {c : List zSt} (h : pTag b n q = some t) : pRest b n q c = .inr (tb b n (wE b n q), c ++ [(t, 0)]) := by unfold pRest; rw [h]
theorem rest_e {q e : Nat} {c : List zSt} (h : pTag b n q = none) (h2 : pSum b n q c = .inl e) : pRest b n q c = .inl e := by unfold pRest; rw [h, h2]
theorem rest_r {q : Nat} {c : List zSt} {r : Nat × List zSt} (h : pTag b n q = none) (h2 : pSum b n q c = .inr r) : pRest b n q c = if sgP b n r.1 60 then pCmp b n 13 r.1 r.2 else if sgP b n r.1 62 then pCmp b n 14 r.1 r.2 else .inl r.1 := by unfold pRest; rw [h, h2]
theorem cmp_e {s q e : Nat} {c : List zSt} (h : pSum b n (tb b n (q + 1)) c = .inl e) : pCmp b n s q c = .inl e := by unfold pCmp; rw [h]
theorem cmp_r {s q : Nat} {c : List zSt} {r : Nat × List zSt} (h : pSum b n (tb b n (q + 1)) c = .inr r) : pCmp b n s q c = .inr (r.1, r.2 ++ [(s, 0)]) := by unfold pCmp; rw [h]
/-- a tag, or two sums compared -/
theorem c_rest {E : zEv} {D : Nat} {px : String → zM → Prop} {M0 M : zM} {l q : Nat} {c : List zSt} {post : Int32 → zM → Prop} {s0 : Int32} (hn : n ≤ 400) (ht : tcC M0 b n) (hl : 1 ≤ l ∧ l ≤ 12) (hI : lcI b n M0 M l q c) (hc : c.length < q) (hs : s0 = nuI (pTag b n q)) (h0 : ∀ e, pRest b n q c = .inl e → ∀ M', M'.1 20 3 = nI e → zpi M' = zpi M0 → post 0 M') (h1 : ∀ r, pRest b n q c = .inr r → ∀ M', lcI b n M0 M' l r.1 r.2 → post 1 M') : w_X6_readAtom_84 E (D + 6) post px s0 M := by
  have nb := hI.1.2.2.2
  have qn := nb.1
  have htM : tcC M b n := ht.pi hI.2.1
  cases hT : pTag b n q with
  | some t =>
    rw [hT] at hs
    have f := tag_le hT
    have hs' : s0 = nI t := hs
    rw [hs']
    refine t_X6_readAtom_84 ⟨fun z => absurd z (nI_m1 (by omega)), fun _ => s_X6_addStep (x := (t, 0)) (stC_lt (by omega)).symm hI (by omega) hl (fun M16 h16 => ?_)⟩
    exact s_X9_at (ht.pi h16.2.1) h16.1 f.2 (fun M18 t18 o18 => h1 _ (rest_t hT) M18 (h16.off o18 t18))
  | none =>
    rw [hT] at hs
    have hs' : s0 = -1 := hs
    rw [hs']
    refine t_X6_readAtom_84 ⟨fun _ => ?_, fun z => absurd rfl z⟩
    refine c_sum hn E _ px M0 M l q c _ (by omega) ht hl hI hc (fun e he M' a1 a2 => z0B (h0 e (rest_e hT he) M' a1 a2)) (fun r hr M4 a1 => z1A ?_)
    obtain ⟨b1, b2, b3⟩ := seg_len g_sum nb hr
    have r4 := b1.1
    have e0 := rest_r hT hr
    -- the second sum
    have two : ∀ (s : Nat) (v : Int32) (M1 : zM), (s = 13 ∨ s = 14) → v = stC (s, 0) → pRest b n q c = pCmp b n s r.1 r.2 → lcI b n M0 M1 l (tb b n (r.1 + 1)) r.2 → nbl b n (tb b n (r.1 + 1)) → r.1 < tb b n (r.1 + 1) → w_X6_readAtom_151 E (D + 6) post px v M1 := by
      intro s v M1 hs hv ep hI1 n1 n2
      refine t_X6_readAtom_151 (c_sum hn E _ px M0 M1 l _ r.2 _ (by omega) ht hl hI1 (by omega) (fun e he M' a1 a2 => z0B (h0 e (ep.trans (cmp_e he)) M' a1 a2)) (fun r' hr' M' a1 => z1A ?_))
      obtain ⟨d1, d2, d3⟩ := seg_len g_sum n1 hr'
      have r5 := d1.1
      exact s_X6_addStep (x := (s, 0)) hv a1 (by omega) hl (fun M7 h7 => h1 _ (ep.trans (cmp_r hr')) M7 h7)
    by_cases y1 : sgP b n r.1 60
    · rw [if_pos y1] at e0
      obtain ⟨n1, n2⟩ := sg_nx y1
      refine s_X9_isSign (c := 60) rfl (by decide) (ht.pi a1.2.1) a1.1 (fun _ => z1B (t_X6_readAtom_129 ?_)) (fun z => absurd y1 z)
      exact s_X9_takeSign (c := 60) rfl (by decide) (ht.pi a1.2.1) a1.1 (fun _ M1 t1 o1 => z1A (two 13 _ M1 (Or.inl rfl) (by decide +kernel) e0 (a1.off o1 t1) n1 n2)) (fun z => absurd y1 z)
    · rw [if_neg y1] at e0
      refine s_X9_isSign (c := 60) rfl (by decide) (ht.pi a1.2.1) a1.1 (fun z => absurd z y1) (fun _ => z0A (t_X6_readAtom_129 ?_))
      refine s_X9_takeSign (c := 60) rfl (by decide) (ht.pi a1.2.1) a1.1 (fun z => absurd z y1) (fun _ => z0B ?_)
      refine s_X9_takeSign (c := 62) rfl (by decide) (ht.pi a1.2.1) a1.1 (fun y2 M1 t1 o1 => z1A ?_) (fun y2 => z0B ?_)
      · rw [if_pos y2] at e0
        obtain ⟨n1, n2⟩ := sg_nx y2
        exact two 14 _ M1 (Or.inr rfl) (by decide +kernel) e0 (a1.off o1 t1) n1 n2
      · rw [if_neg y2] at e0
        exact h0 _ e0 M4 a1.1.1 a1.2.1
theorem atom_d {r q : Nat} {c : List zSt} (h : sgP b n q 40 ∨ wdP b n q 22) : pAtom b n (r + 1) q c = if sgP b n q 40 then pParen b n (pAtom b n r) q c else pNot b n (pAtom b n r) q c := by
  have e0 : pAtom b n (r + 1) q c = if sgP b n q 40 then pParen b n (pAtom b n r) q c else if wdP b n q 22 then pNot b n (pAtom b n r) q c else pRest b n q c := rfl
  rw [e0]
  by_cases y : sgP b n q 40
  · rw [if_pos y, if_pos y]
  · rw [if_neg y, if_neg y, if_pos (h.resolve_left y)]
theorem atom_0 {q : Nat} {c : List zSt} (h : sgP b n q 40 ∨ wdP b n q 22) : pAtom b n 0 q c = .inl q := if_pos h
theorem atom_n {q : Nat} {c : List zSt} (h1 : ¬ sgP b n q 40) (h2 : ¬ wdP b n q 22) : ∀ r, pAtom b n r q c = pRest b n q c
  | 0 => if_neg (fun z => z.elim h1 h2)
  | r + 1 => by
    have e0 : pAtom b n (r + 1) q c = if sgP b n q 40 then pParen b n (pAtom b n r) q c else if wdP b n q 22 then pNot b n (pAtom b n r) q c else pRest b n q c := rfl
    rw [e0, if_neg h1, if_neg h2]
theorem c_atom (hn : n ≤ 400) : ∀ r, r ≤ 6 → okC b n (7 + 4 * r) jX6_readAtom [.ref 22, .ref 20, .int (nI (6 - r))] (pAtom b n r) := by
  intro r
  induction r with
  | zero =>
    intro _ E D px M0 M l q c post hD ht hl hI hc h0 h1
    obtain ⟨D1, rfl⟩ : ∃ D1, D = D1 + 7 := ⟨D - 7, by omega⟩
    have htM : tcC M b n := ht.pi hI.2.1
    have deep : (sgP b n q 40 ∨ wdP b n q 22) → w_X6_readAtom_18 E (D1 + 6) post px (nI (6 - 0)) M := fun y => t_X6_readAtom_18 (pk_le 6 6 (fun _ => t_X6_readAtom_39 (t_X6_readAtom_40 ⟨Or.inl rfl, h0 q (atom_0 y) M hI.1.1 hI.2.1⟩)) (fun z => absurd z (by omega)))
    have rest : ∀ s0, ¬ sgP b n q 40 → ¬ wdP b n q 22 → s0 = nuI (pTag b n q) → w_X6_readAtom_84 E (D1 + 6) post px s0 M := fun s0 y1 y2 hs => c_rest hn ht hl hI hc hs (fun e he => h0 e ((atom_n y1 y2 0).trans he)) (fun r hr => h1 r ((atom_n y1 y2 0).trans hr))
    refine e_X6_readAtom (s_X9_isWord (w := 22) (by decide) (by decide) htM hI.1 (fun y => z1A (deep (Or.inr y))) (fun y2 => z0B (s_X9_isSign (c := 40) rfl (by decide) htM hI.1 (fun y => z1B (deep (Or.inl y))) (fun y1 => z0A ?_))))
    exact s_X9_isWord (w := 23) (by decide) (by decide) htM hI.1 (fun a1 => z1B (rest _ y1 y2 (by unfold pTag; rw [if_pos a1]; rfl))) (fun a1 => z0A (s_X9_isWord (w := 24) (by decide) (by decide) htM hI.1 (fun a2 => z1B (rest _ y1 y2 (by unfold pTag; rw [if_neg a1, if_pos a2]; rfl))) (fun a2 => z0A (s_X9_isWord (w := 25) (by decide) (by decide) htM hI.1 (fun a3 => z1B (rest _ y1 y2 (by unfold pTag; rw [if_neg a1, if_neg a2, if_pos a3]; rfl))) (fun a3 => z0A (rest _ y1 y2 (by unfold pTag; rw [if_neg a1, if_neg a2, if_neg a3]; rfl)))))))
  | succ r ih =>
    intro hr6 E D px M0 M l q c post hD ht hl hI hc h0 h1
    obtain ⟨D1, rfl⟩ : ∃ D1, D = D1 + 7 := ⟨D - 7, by omega⟩
    have htM : tcC M b n := ht.pi hI.2.1
    have hA := ih (by omega)
    have deep : (sgP b n q 40 ∨ wdP b n q 22) → w_X6_readAtom_18 E (D1 + 6) post px (nI (6 - (r + 1))) M := fun y => t_X6_readAtom_18 (pk_le 6 (6 - (r + 1)) (fun z => absurd z (by omega)) (fun _ => by
      rw [nI_1, show 6 - (r + 1) + 1 = 6 - r by omega]
      exact c_deeper hn (g_atom r) (by omega) hA (by omega) ht hl hI hc y (fun e he M' a1 a2 => z0A (t_X6_readAtom_39 (t_X6_readAtom_40 ⟨Or.inl rfl, h0 e ((atom_d y).trans he) M' a1 a2⟩))) (fun r' hr' M' a1 => z1B (t_X6_readAtom_40 ⟨Or.inr rfl, h1 r' ((atom_d y).trans hr') M' a1⟩))))
    have rest : ∀ s0, ¬ sgP b n q 40 → ¬ wdP b n q 22 → s0 = nuI (pTag b n q) → w_X6_readAtom_84 E (D1 + 6) post px s0 M := fun s0 y1 y2 hs => c_rest hn ht hl hI hc hs (fun e he => h0 e ((atom_n y1 y2 (r + 1)).trans he)) (fun r' hr' => h1 r' ((atom_n y1 y2 (r + 1)).trans hr'))
    refine e_X6_readAtom (s_X9_isWord (w := 22) (by decide) (by decide) htM hI.1 (fun y => z1A (deep (Or.inr y))) (fun y2 => z0B (s_X9_isSign (c := 40) rfl (by decide) htM hI.1 (fun y => z1B (deep (Or.inl y))) (fun y1 => z0A ?_))))
    exact s_X9_isWord (w := 23) (by decide) (by decide) htM hI.1 (fun a1 => z1B (rest _ y1 y2 (by unfold pTag; rw [if_pos a1]; rfl))) (fun a1 => z0A (s_X9_isWord (w := 24) (by decide) (by decide) htM hI.1 (fun a2 => z1B (rest _ y1 y2 (by unfold pTag; rw [if_neg a1, if_pos a2]; rfl))) (fun a2 => z0A (s_X9_isWord (w := 25) (by decide) (by decide) htM hI.1 (fun a3 => z1B (rest _ y1 y2 (by unfold pTag; rw [if_neg a1, if_neg a2, if_pos a3]; rfl))) (fun a3 => z0A (rest _ y1 y2 (by unfold pTag; rw [if_neg a1, if_neg a2, if_neg a3]; rfl)))))))
end LAWC
