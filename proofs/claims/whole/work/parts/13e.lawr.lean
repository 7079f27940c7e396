/-! ===== the law read by the reference ===== -/
def offR (M M0 : zM) : Prop := (∀ o j, o ≠ 0 → ¬ (o = 1 ∧ 1270 ≤ j) → M.1 o j = M0.1 o j) ∧ (∀ j, j ≠ 10 → j ≠ 12 → j ≠ 13 → j ≠ 16 → M.1 0 j = M0.1 0 j) ∧ M.2 = M0.2
/-- the steps c lie behind the draft; the point is p; d deep -/
def lrI (n : Nat) (M0 M : zM) (d p : Nat) (c : List zSt) : Prop := M.1 0 10 = nI p ∧ p ≤ n ∧ M.1 0 13 = nI d ∧ M.1 0 16 = nI c.length ∧ (∀ i, i < c.length → M.1 1 (1270 + 2 * i) = nI (c.getD i (0, 0)).1 ∧ M.1 1 (1270 + 2 * i + 1) = nI (c.getD i (0, 0)).2) ∧ offR M M0
theorem offR.refl {M : zM} : offR M M := ⟨fun _ _ _ _ => rfl, fun _ _ _ _ _ => rfl, rfl⟩
theorem offR.rp {M' M M0 : zM} {p q : Nat} (h : offR M M0) (r : rp M' M p q) : offR M' M0 := ⟨fun o j h1 h2 => (r.2.2.1 o j (by omega)).trans (h.1 o j h1 h2), fun j h1 h2 h3 h4 => (r.2.2.1 0 j (by omega)).trans (h.2.1 j h1 h2 h3 h4), r.2.2.2.trans h.2.2⟩
theorem lrI.rp {n d p p' q' : Nat} {c : List zSt} {M0 M M' : zM} (h : lrI n M0 M d p c) (r : rp M' M p' q') (hp : p' ≤ n) : lrI n M0 M' d p' c := ⟨r.1, hp, by rw [r.2.2.1 0 13 (by omega)]; exact h.2.2.1, by rw [r.2.2.1 0 16 (by omega)]; exact h.2.2.2.1, fun i hi => by rw [r.2.2.1 1 _ (by omega), r.2.2.1 1 _ (by omega)]; exact h.2.2.2.2.1 i hi, h.2.2.2.2.2.rp r⟩
theorem lrI.deep {n d d' p : Nat} {c : List zSt} {M0 M M' : zM} {v : Int32} (h : lrI n M0 M d p c) (e : M' = zup M 0 13 v) (hv : v = nI d') : lrI n M0 M' d' p c := by
  subst e
  refine ⟨by rw [zup_n (Or.inr (by decide))]; exact h.1, h.2.1, by rw [zup_s]; exact hv, by rw [zup_n (Or.inr (by decide))]; exact h.2.2.2.1, fun i hi => by rw [zup_o (by decide)]; exact h.2.2.2.2.1 i hi, fun o j h1 h2 => by rw [zup_o h1]; exact h.2.2.2.2.2.1 o j h1 h2, fun j h1 h2 h3 h4 => by rw [zup_n (Or.inr h3)]; exact h.2.2.2.2.2.2.1 j h1 h2 h3 h4, h.2.2.2.2.2.2.2⟩
theorem tcR.off {b : Nat → Nat} {n : Nat} {M M0 : zM} (h : tcR M0 b n) (o : offR M M0) : tcR M b n := ⟨h.1, by rw [o.2.1 11 (by decide) (by decide) (by decide) (by decide)]; exact h.2.1, fun j hj => by rw [o.1 6 j (by decide) (by omega)]; exact h.2.2 j hj⟩
theorem nu_w {b : Nat → Nat} {n q lo hi : Nat} (hq : q ≤ n) (h : q < wE b n q) : nuF b n q lo hi = none := if_neg (fun z => by
  have h1 := dE_c z.1 hq
  have h2 := wE_c h hq
  omega)
theorem fact_w {b : Nat → Nat} {n q : Nat} (h : ¬ q < wE b n q) : pFact b n q = none := by
  cases hf : pFact b n q with
  | none => rfl
  | some k => exact absurd (fact_le hf).2 h
section LAWR
variable {b : Nat → Nat} {n : Nat}
section STEPR
variable {E : zEv} {D : Nat} {px : String → zM → Prop} {M M0 : zM} {p q d : Nat} {c : List zSt}
theorem s_X12_emitsF {post : zM → Prop} {v1 v2 : Int32} (h : lrI n M0 M d p c) (hc : c.length < 400) (hp : ∀ M', offR M' M0 → M'.1 0 12 = M.1 0 12 → (∀ o j, ¬ (o = 0 ∧ j = 16) → ¬ (o = 1 ∧ (j = 1270 + 2 * c.length ∨ j = 1270 + 2 * c.length + 1)) → M'.1 o j = M.1 o j) → M'.1 0 16 = nI (c.length + 1) → M'.1 1 (1270 + 2 * c.length) = v1 → M'.1 1 (1270 + 2 * c.length + 1) = v2 → post M') : zCv E jX12_emits D 0 [.ref 0, .int v1, .int v2] M post px := by
  obtain ⟨h1, h2, h3, h4, h5, h6⟩ := h
  have ix : ∀ x : Int32, x = nI c.length → (1270 : Int32) + 2 * x = nI (1270 + 2 * c.length) := fun x hx => by rw [hx, show (2 : Int32) = nI 2 from rfl, pk_mul, show (1270 : Int32) = nI 1270 from rfl, nI_add]
  refine e_X12_emits ?_
  rw [ix _ h4]
  refine ⟨pk_in (1270 + 2 * c.length) _ (by omega), fun M3 e3 => ?_⟩
  rw [nI_clamp (by omega)] at e3
  have a4 : M3.1 0 16 = nI c.length := by rw [e3, zup_o (by decide)]; exact h4
  rw [ix _ a4, nI_1]
  refine ⟨pk_in (1270 + 2 * c.length + 1) _ (by omega), fun M7 e7 M9 e9 => ?_⟩
  rw [nI_clamp (by omega)] at e7
  have b4 : M7.1 0 16 = nI c.length := by rw [e7, zup_o (by decide)]; exact a4
  rw [b4, nI_1] at e9
  have all : ∀ o j, ¬ (o = 0 ∧ j = 16) → ¬ (o = 1 ∧ (j = 1270 + 2 * c.length ∨ j = 1270 + 2 * c.length + 1)) → M9.1 o j = M.1 o j := fun o j g1 g2 => by rw [e9, zup_n (by omega), e7, zup_n (by omega), e3, zup_n (by omega)]
  refine hp M9 ⟨fun o j g1 g2 => (all o j (by omega) (by omega)).trans (h6.1 o j g1 g2), fun j g1 g2 g3 g4 => (all 0 j (by omega) (by omega)).trans (h6.2.1 j g1 g2 g3 g4), by rw [e9, zup_L, e7, zup_L, e3, zup_L]; exact h6.2.2⟩ (all 0 12 (by omega) (by omega)) all ?_ ?_ ?_
  · rw [e9, zup_s]
  · rw [e9, zup_o (by decide), e7, zup_n (Or.inr (by omega)), e3, zup_s]
  · rw [e9, zup_o (by decide), e7, zup_s]
theorem s_X12_emits {post : zM → Prop} {x : zSt} {v1 v2 : Int32} (hv1 : v1 = nI x.1) (hv2 : v2 = nI x.2) (h : lrI n M0 M d p c) (hc : c.length < 400) (hp : ∀ M', lrI n M0 M' d p (c ++ [x]) → post M') : zCv E jX12_emits D 0 [.ref 0, .int v1, .int v2] M post px := by
  refine s_X12_emitsF h hc (fun M' a1 a2 a3 a4 a5 a6 => hp M' ⟨?_, h.2.1, ?_, ?_, fun i hi => ?_, a1⟩)
  · rw [a3 0 10 (by omega) (by omega)]; exact h.1
  · rw [a3 0 13 (by omega) (by omega)]; exact h.2.2.1
  · rw [a4, len_1]
  · rw [len_1] at hi
    by_cases c1 : i = c.length
    · rw [c1, a5, a6, getD_r]; exact ⟨hv1, hv2⟩
    · rw [a3 1 (1270 + 2 * i) (by omega) (by omega), a3 1 (1270 + 2 * i + 1) (by omega) (by omega), getD_l (by omega)]; exact h.2.2.2.2.1 i (by omega)
theorem s_X12_wordOfPart {post : Int32 → zM → Prop} (ht : tcR M b n) (hp : M.1 0 10 = nI (wE b n q)) (hq : M.1 0 12 = nI q) (hn : q ≤ n) (h : post (nuI (pFact b n q)) M) : zCi E jX12_wordOfPart (D + 5) 0 [.ref 0] M post px := by
  have ex : ∀ v : Int32, nuI (pFact b n q) = v → post v M := fun v hv => hv ▸ h
  exact e_X12_wordOfPart (s_X12_isWord (w := 0) (by decide) ht hp hq hn (fun z => z1B (ex _ (by unfold pFact; rw [if_pos z]; rfl))) (fun y0 => z0A (s_X12_isWord (w := 1) (by decide) ht hp hq hn (fun z => z1B (ex _ (by unfold pFact; rw [if_neg y0, if_pos z]; rfl))) (fun y1 => z0A (s_X12_isWord (w := 2) (by decide) ht hp hq hn (fun z => z1B (ex _ (by unfold pFact; rw [if_neg y0, if_neg y1, if_pos z]; rfl))) (fun y2 => z0A (s_X12_isWord (w := 3) (by decide) ht hp hq hn (fun z => z1B (ex _ (by unfold pFact; rw [if_neg y0, if_neg y1, if_neg y2, if_pos z]; rfl))) (fun y3 => z0A (s_X12_isWord (w := 4) (by decide) ht hp hq hn (fun z => z1B (ex _ (by unfold pFact; rw [if_neg y0, if_neg y1, if_neg y2, if_neg y3, if_pos z]; rfl))) (fun y4 => z0A (s_X12_isWord (w := 12) (by decide) ht hp hq hn (fun z => z1B (ex _ (by unfold pFact; rw [if_neg y0, if_neg y1, if_neg y2, if_neg y3, if_neg y4, if_pos z]; rfl))) (fun y5 => z0A (s_X12_isWord (w := 6) (by decide) ht hp hq hn (fun z => z1B (ex _ (by unfold pFact; rw [if_neg y0, if_neg y1, if_neg y2, if_neg y3, if_neg y4, if_neg y5, if_pos z]; rfl))) (fun y6 => z0A (s_X12_isWord (w := 26) (by decide) ht hp hq hn (fun z => z1B (t_X12_wordOfPart_93 (ex _ (by unfold pFact; rw [if_neg y0, if_neg y1, if_neg y2, if_neg y3, if_neg y4, if_neg y5, if_neg y6, if_pos z]; rfl)))) (fun y7 => z0A (t_X12_wordOfPart_93 (ex _ (by unfold pFact; rw [if_neg y0, if_neg y1, if_neg y2, if_neg y3, if_neg y4, if_neg y5, if_neg y6, if_neg y7]; rfl)))))))))))))))))))
theorem s_X12_kind {post : Int32 → zM → Prop} {x y : Int32} (ht : tcR M b n) (hp : M.1 0 10 = nI (wE b n q)) (hq : M.1 0 12 = nI q) (hn : q ≤ n) (hx : (1222 : Int32) + 4 * x = y) (h : w_X12_readLawLine_56 E (D + 4) post px y (nuI (pKind b n q)) y M) : zCi E jX12_readLawLine (D + 5) 0 [.ref 0, .int x] M post px := by
  have ex : ∀ v : Int32, nuI (pKind b n q) = v → w_X12_readLawLine_56 E (D + 4) post px (1222 + 4 * x) v (1222 + 4 * x) M := fun v hv => by rw [← hv, hx]; exact h
  exact e_X12_readLawLine (s_X12_isWord (w := 18) (by decide) ht hp hq hn (fun z => z1B (ex _ (by unfold pKind; rw [if_pos z]; rfl))) (fun y0 => z0A (s_X12_isWord (w := 19) (by decide) ht hp hq hn (fun z => z1B (ex _ (by unfold pKind; rw [if_neg y0, if_pos z]; rfl))) (fun y1 => z0A (s_X12_isWord (w := 20) (by decide) ht hp hq hn (fun z => z1B (ex _ (by unfold pKind; rw [if_neg y0, if_neg y1, if_pos z]; rfl))) (fun y2 => z0A ((ex _ (by unfold pKind; rw [if_neg y0, if_neg y1, if_neg y2]; rfl)))))))))
theorem s_X12_readTag {post : Int32 → zM → Prop} (ht : tcR M0 b n) (hI : lrI n M0 M d p c) (hq : tb b n p = q) (hc : c.length < 400) (h1 : ∀ t, pTag b n q = some t → ∀ M', lrI n M0 M' d (wE b n q) (c ++ [(t, 0)]) → post 1 M') (h0 : pTag b n q = none → ∀ M', rp M' M q q → post 0 M') : zCi E jX12_readTag (D + 5) 0 [.ref 0] M post px := by
  have htM := ht.off hI.2.2.2.2.2
  have q4 := tb_hi (b := b) hI.2.1
  refine e_X12_readTag (s_X12_letters htM hI.1 hI.2.1 (fun M1 r1 => ?_))
  rw [hq] at r1 q4
  have hn := q4
  have hp := r1.1
  have hq' := r1.2.1
  have w2 := wE_hi (b := b) q4
  have ht1 := htM.rp r1
  have yes : ∀ t (v : Int32), pTag b n q = some t → v = nI t → w_X12_readTag_47 E (D + 4) post px v M1 := fun t v hT hv => by
    have f := tag_le hT
    subst hv
    refine t_X12_readTag_47 ⟨fun z => absurd z (nI_pos (by omega)), fun _ => s_X12_emits (x := (t, 0)) rfl rfl (hI.rp r1 w2) hc (fun M6 h6 => t_X12_readTag_69 ⟨fun z => absurd z (nI_pos (by omega)), fun _ => t_X12_readTag_78 ⟨Or.inr rfl, h1 t hT M6 h6⟩⟩)⟩
  have no : pTag b n q = none → w_X12_readTag_47 E (D + 4) post px (-1) M1 := fun hT => t_X12_readTag_47 ⟨fun _ M4 e4 => t_X12_readTag_69 ⟨fun _ => t_X12_readTag_78 ⟨Or.inl rfl, h0 hT M4 ⟨by rw [e4, zup_s]; exact r1.2.1, by rw [e4, zup_n (Or.inr (by decide))]; exact r1.2.1, fun o j z => by rw [e4, zup_n (by omega)]; exact r1.2.2.1 o j z, by rw [e4]; exact r1.2.2.2⟩⟩, fun z => absurd (by decide) z⟩, fun z => absurd (by decide) z⟩
  exact s_X12_isWord (w := 23) (by decide) ht1 hp hq' hn (fun a1 => z1B (yes 8 _ (by unfold pTag; rw [if_pos a1]) rfl)) (fun a1 => z0A (s_X12_isWord (w := 24) (by decide) ht1 hp hq' hn (fun a2 => z1B (yes 9 _ (by unfold pTag; rw [if_neg a1, if_pos a2]) rfl)) (fun a2 => z0A (s_X12_isWord (w := 25) (by decide) ht1 hp hq' hn (fun a3 => z1B (yes 10 _ (by unfold pTag; rw [if_neg a1, if_neg a2, if_pos a3]) rfl)) (fun a3 => z0A (no (by unfold pTag; rw [if_neg a1, if_neg a2, if_neg a3])))))))
end STEPR
/-- a method of the reference reads what A reads -/
def okR (b : Nat → Nat) (n h : Nat) (J : zJ) (d : Nat) (A : Nat → List zSt → zRs) : Prop := ∀ (E : zEv) (D : Nat) (px : String → zM → Prop) (M0 M : zM) (p q : Nat) (c : List zSt) (post : Int32 → zM → Prop), h ≤ D → tcR M0 b n → lrI n M0 M d p c → tb b n p = q → c.length < q → (∀ e, A q c = .inl e → ∀ M', M'.1 0 12 = nI e → offR M' M0 → post 0 M') → (∀ r, A q c = .inr r → ∀ M' p', lrI n M0 M' d p' r.2 → tb b n p' = r.1 → post 1 M') → zCi E J D 0 [.ref 0] M post px
theorem r_part {d : Nat} (hn : n ≤ 400) : okR b n 6 jX12_readPart d (pPart b n) := by
  intro E D px M0 M p q c post hD ht hI hq hc h0 h1
  obtain ⟨D1, rfl⟩ : ∃ D1, D = D1 + 6 := ⟨D - 6, by omega⟩
  have htM := ht.off hI.2.2.2.2.2
  have nb := nbl_tb (b := b) hI.2.1
  rw [hq] at nb
  have q4 := nb.1
  refine e_X12_readPart (s_X12_letters htM hI.1 hI.2.1 (fun M1 r1 => ?_))
  rw [hq] at r1
  have w1 := wE_le (b := b) (n := n) (p := q)
  have w2 := wE_hi (b := b) q4
  have ht1 := htM.rp r1
  have hI1 := hI.rp r1 w2
  have bad : ∀ (M2 : zM) (p2 : Nat) (v1 v2 y2 : Int32), lrI n M0 M2 d p2 c → M2.1 0 12 = nI q → pPart b n q c = .inl q → y2 < 0 → w_X12_readPart_61 E (D1 + 5) post px y2 v2 v1 M2 := fun M2 p2 v1 v2 y2 hI2 h12 hP hy => t_X12_readPart_61 (s_X12_emitsF hI2 (by omega) (fun M' a1 a2 _ _ _ _ => ⟨fun _ => t_X12_readPart_73 ⟨Or.inl rfl, h0 q hP M' (a2.trans h12) a1⟩, fun z => absurd hy z⟩))
  by_cases w : q < wE b n q
  · refine (pk_eq (wE b n q) q (fun z => absurd z (by omega)) (fun _ => ?_) r1.1 r1.2.1).symm
    refine t_X12_readPart_20 (z0A (s_X12_wordOfPart ht1 r1.1 r1.2.1 q4 (t_X12_readPart_40 (z0A (t_X12_readPart_52 (z0A ?_))))))
    cases hf : pFact b n q with
    | some k =>
      have f := fact_le hf
      refine t_X12_readPart_61 (s_X12_emits (x := (k, 0)) rfl rfl hI1 (by omega) (fun M' h' => ⟨fun z => absurd z (nI_pos (by omega)), fun _ => t_X12_readPart_73 ⟨Or.inr rfl, h1 _ (part_f hf) M' _ h' rfl⟩⟩))
    | none => exact bad M1 _ _ _ _ hI1 r1.2.1 (part_n hf (nu_w q4 w)) (by decide)
  · have ew : wE b n q = q := by omega
    refine (pk_eq (wE b n q) q (fun _ => ?_) (fun z => absurd ew z) r1.1 r1.2.1).symm
    rw [ew] at r1
    have hf := fact_w w
    refine t_X12_readPart_20 (z1B (s_X12_number (lo := 0) (hi := 999) rfl rfl (by decide) ht1 r1.1 q4 (tb_id nb) (fun M2 r2 => t_X12_readPart_40 (z1B (t_X12_readPart_52 (z1B ?_))))))
    have hI2 := hI1.rp r2 (dE_hi q4)
    cases hv : nuF b n q 0 999 with
    | some v =>
      have f := nuF_some hv
      exact t_X12_readPart_61 (s_X12_emits (x := (11, v)) rfl rfl hI2 (by omega) (fun M' h' => ⟨fun z => absurd z (nI_pos (by omega)), fun _ => t_X12_readPart_73 ⟨Or.inr rfl, h1 _ (part_v hf hv) M' _ h' rfl⟩⟩))
    | none => exact bad M2 _ _ _ _ hI2 r2.2.1 (part_n hf hv) (by decide)
theorem r_sum {d : Nat} (hn : n ≤ 400) : okR b n 7 jX12_readSum d (pSum b n) := by
  intro E D px M0 M p q c post hD ht hI hq hc h0 h1
  obtain ⟨D1, rfl⟩ : ∃ D1, D = D1 + 7 := ⟨D - 7, by omega⟩
  have loop : ∀ (k : Nat) {M : zM} {p q : Nat} {c : List zSt}, n < q + k → lrI n M0 M d p c → tb b n p = q → c.length < q → (∀ e, pSumL b n k q c = .inl e → ∀ M', M'.1 0 12 = nI e → offR M' M0 → post 0 M') → (∀ r, pSumL b n k q c = .inr r → ∀ M' p', lrI n M0 M' d p' r.2 → tb b n p' = r.1 → post 1 M') → w_X12_readSum_9 E (D1 + 6) post px M := by
    intro k
    induction k with
    | zero =>
      intro M p q c hk hI hq hc h0 h1
      have := tb_hi (b := b) hI.2.1
      omega
    | succ k ih =>
      intro M p q c hk hI hq hc h0 h1
      have htM := ht.off hI.2.2.2.2.2
      have nb := nbl_tb (b := b) hI.2.1
      rw [hq] at nb
      have q4 := nb.1
      refine t_X12_readSum_9 (s_X12_sign (c := 43) rfl (by decide) htM hI.1 hI.2.1 hq (fun s M1 r1 => z1B ?_) (fun s M1 r1 => z0A ?_))
      · obtain ⟨n1, n2⟩ := sg_nx s
        have e0 : pSumL b n (k + 1) q c = match pPart b n (tb b n (q + 1)) c with | .inl e => .inl e | .inr r => pSumL b n k r.1 (r.2 ++ [(12, 0)]) := by
          rw [pSumL, if_pos s]
          rfl
        refine r_part hn E _ px M0 M1 (q + 1) _ c _ (by omega) ht (hI.rp r1 s.1) rfl (by omega) (fun e he M' a1 a2 => z0B (h0 e (by rw [e0, he]) M' a1 a2)) (fun r hr M' p' a1 a2 => z1A ?_)
        obtain ⟨b1, b2, b3⟩ := seg_len g_part n1 hr
        have r4 := b1.1
        rw [hr] at e0
        refine s_X12_emits (x := (12, 0)) rfl rfl a1 (by omega) (fun M13 h13 => ?_)
        exact ih (by omega) h13 a2 (by rw [len_1]; omega) (fun e he => h0 e (e0.trans he)) (fun r' hr' => h1 r' (e0.trans hr'))
      · exact h1 _ (sumL_n s) M1 q (hI.rp r1 q4) (tb_id nb)
  refine e_X12_readSum (r_part hn E _ px M0 M p q c _ (by omega) ht hI hq hc (fun e he M' a1 a2 => z0B (h0 e (by unfold pSum; rw [he]) M' a1 a2)) (fun r hr M' p' a1 a2 => z1A ?_))
  have nb := nbl_tb (b := b) hI.2.1
  rw [hq] at nb
  obtain ⟨b1, b2, b3⟩ := seg_len g_part nb hr
  have e0 : pSum b n q c = pSumL b n (n + 1) r.1 r.2 := by unfold pSum; rw [hr]
  exact loop (n + 1) (by omega) a1 a2 (by omega) (fun e he => h0 e (e0.trans he)) (fun r' hr' => h1 r' (e0.trans hr'))
theorem r_readAllOf {A : Nat → List zSt → zRs} {K h d : Nat} (hn : n ≤ 400) (hg : gP b n true K A) (h5 : 5 ≤ h) (hA : okR b n h jX12_readAtom d A) : okR b n (h + 1) jX12_readAllOf d (pSeq b n A 27 16) := by
  intro E D px M0 M p q c post hD ht hI hq hc h0 h1
  obtain ⟨D1, rfl⟩ : ∃ D1, D = D1 + 6 := ⟨D - 6, by omega⟩
  have loop : ∀ (k : Nat) {M : zM} {p q : Nat} {c : List zSt}, n < q + k → lrI n M0 M d p c → tb b n p = q → c.length < q → (∀ e, pLoop b n A 27 16 k q c = .inl e → ∀ M', M'.1 0 12 = nI e → offR M' M0 → post 0 M') → (∀ r, pLoop b n A 27 16 k q c = .inr r → ∀ M' p', lrI n M0 M' d p' r.2 → tb b n p' = r.1 → post 1 M') → w_X12_readAllOf_9 E (D1 + 5) post px M := by
    intro k
    induction k with
    | zero =>
      intro M p q c hk hI hq hc h0 h1
      have := tb_hi (b := b) hI.2.1
      omega
    | succ k ih =>
      intro M p q c hk hI hq hc h0 h1
      have htM := ht.off hI.2.2.2.2.2
      have nb := nbl_tb (b := b) hI.2.1
      rw [hq] at nb
      have q4 := nb.1
      refine t_X12_readAllOf_9 (s_X12_passes (w := 27) (by decide) htM hI.1 hI.2.1 hq (fun y M1 r1 => z1B ?_) (fun y M1 r1 => z0A (h1 _ (loop_n y) M1 q (hI.rp r1 q4) (tb_id nb))))
      obtain ⟨n1, n2⟩ := wd_nx nb (by decide) y
      have e0 := loop_y (A := A) (s := 16) (k := k) (c := c) y
      refine hA E _ px M0 M1 (wE b n q) _ c _ (by omega) ht (hI.rp r1 (wE_hi q4)) rfl (by omega) (fun e he M' a1 a2 => z0B (h0 e (by rw [e0, he]) M' a1 a2)) (fun r hr M' p' a1 a2 => z1A ?_)
      obtain ⟨b1, b2, b3⟩ := seg_len hg n1 hr
      have r4 := b1.1
      rw [hr] at e0
      refine s_X12_emits (x := (16, 0)) rfl rfl a1 (by omega) (fun M13 h13 => ?_)
      exact ih (by omega) h13 a2 (by rw [len_1]; omega) (fun e he => h0 e (e0.trans he)) (fun r' hr' => h1 r' (e0.trans hr'))
  refine e_X12_readAllOf (hA E _ px M0 M p q c _ (by omega) ht hI hq hc (fun e he M' a1 a2 => z0B (h0 e (seq_e he) M' a1 a2)) (fun r hr M' p' a1 a2 => z1A ?_))
  have nb := nbl_tb (b := b) hI.2.1
  rw [hq] at nb
  obtain ⟨b1, b2, b3⟩ := seg_len hg nb hr
  have e0 := seq_r (b := b) (n := n) (w := 27) (s := 16) hr
  exact loop (n + 1) (by omega) a1 a2 (by omega) (fun e he => h0 e (e0.trans he)) (fun r' hr' => h1 r' (e0.trans hr'))
theorem r_readCond {A : Nat → List zSt → zRs} {K h d : Nat} (hn : n ≤ 400) (hg : gP b n true K A) (h5 : 5 ≤ h) (hA : okR b n h jX12_readAllOf d A) : okR b n (h + 1) jX12_readCond d (pSeq b n A 28 17) := by
  intro E D px M0 M p q c post hD ht hI hq hc h0 h1
  obtain ⟨D1, rfl⟩ : ∃ D1, D = D1 + 6 := ⟨D - 6, by omega⟩
  have loop : ∀ (k : Nat) {M : zM} {p q : Nat} {c : List zSt}, n < q + k → lrI n M0 M d p c → tb b n p = q → c.length < q → (∀ e, pLoop b n A 28 17 k q c = .inl e → ∀ M', M'.1 0 12 = nI e → offR M' M0 → post 0 M') → (∀ r, pLoop b n A 28 17 k q c = .inr r → ∀ M' p', lrI n M0 M' d p' r.2 → tb b n p' = r.1 → post 1 M') → w_X12_readCond_9 E (D1 + 5) post px M := by
    intro k
    induction k with
    | zero =>
      intro M p q c hk hI hq hc h0 h1
      have := tb_hi (b := b) hI.2.1
      omega
    | succ k ih =>
      intro M p q c hk hI hq hc h0 h1
      have htM := ht.off hI.2.2.2.2.2
      have nb := nbl_tb (b := b) hI.2.1
      rw [hq] at nb
      have q4 := nb.1
      refine t_X12_readCond_9 (s_X12_passes (w := 28) (by decide) htM hI.1 hI.2.1 hq (fun y M1 r1 => z1B ?_) (fun y M1 r1 => z0A (h1 _ (loop_n y) M1 q (hI.rp r1 q4) (tb_id nb))))
      obtain ⟨n1, n2⟩ := wd_nx nb (by decide) y
      have e0 := loop_y (A := A) (s := 17) (k := k) (c := c) y
      refine hA E _ px M0 M1 (wE b n q) _ c _ (by omega) ht (hI.rp r1 (wE_hi q4)) rfl (by omega) (fun e he M' a1 a2 => z0B (h0 e (by rw [e0, he]) M' a1 a2)) (fun r hr M' p' a1 a2 => z1A ?_)
      obtain ⟨b1, b2, b3⟩ := seg_len hg n1 hr
      have r4 := b1.1
      rw [hr] at e0
      refine s_X12_emits (x := (17, 0)) rfl rfl a1 (by omega) (fun M13 h13 => ?_)
      exact ih (by omega) h13 a2 (by rw [len_1]; omega) (fun e he => h0 e (e0.trans he)) (fun r' hr' => h1 r' (e0.trans hr'))
  refine e_X12_readCond (hA E _ px M0 M p q c _ (by omega) ht hI hq hc (fun e he M' a1 a2 => z0B (h0 e (seq_e he) M' a1 a2)) (fun r hr M' p' a1 a2 => z1A ?_))
  have nb := nbl_tb (b := b) hI.2.1
  rw [hq] at nb
  obtain ⟨b1, b2, b3⟩ := seg_len hg nb hr
  have e0 := seq_r (b := b) (n := n) (w := 28) (s := 17) hr
  exact loop (n + 1) (by omega) a1 a2 (by omega) (fun e he => h0 e (e0.trans he)) (fun r' hr' => h1 r' (e0.trans hr'))
theorem r_cond {A : Nat → List zSt → zRs} {K h d : Nat} (hn : n ≤ 400) (hg : gP b n true K A) (h5 : 5 ≤ h) (hA : okR b n h jX12_readAtom d A) : okR b n (h + 2) jX12_readCond d (pCond b n A) :=
  r_readCond hn (g_seq hg (Or.inl rfl) (by decide)) (by omega) (r_readAllOf hn hg h5 hA)
/-- a tag, or two sums compared: behind what is no ( and no not -/
theorem r_rest {d p q : Nat} {c : List zSt} {E : zEv} {D1 : Nat} {px : String → zM → Prop} {M0 M7 : zM} {post : Int32 → zM → Prop} (hn : n ≤ 400) (ht : tcR M0 b n) (hI : lrI n M0 M7 d p c) (hq : tb b n p = q) (hc : c.length < q) (h0 : ∀ e, pRest b n q c = .inl e → ∀ M', M'.1 0 12 = nI e → offR M' M0 → post 0 M') (h1 : ∀ r, pRest b n q c = .inr r → ∀ M' p', lrI n M0 M' d p' r.2 → tb b n p' = r.1 → post 1 M') : zCi E jX12_readTag (D1 + 7) 0 [.ref 0] M7 (fun r15 M13 => ((r15 = 0 → zCi E jX12_readSum (D1 + 7) 0 [.ref 0] M13 (fun r21 M19 => ((¬ r21 = 0 → zCi E jX12_sign (D1 + 7) 0 [.ref 0, .int 60] M19 (fun r27 M25 => ((¬ r27 = 0 → w_X12_readAtom_152 E (D1 + 7) post px r27 M25) ∧ (r27 = 0 → zCi E jX12_sign (D1 + 7) 0 [.ref 0, .int 62] M25 (fun r33 M31 => ((r33 = 0 → w_X12_readAtom_159 E (D1 + 7) post px M31) ∧ (¬ r33 = 0 → w_X12_readAtom_152 E (D1 + 7) post px r27 M31))) px))) px) ∧ (r21 = 0 → post 0 M19))) px) ∧ (¬ r15 = 0 → post 1 M13))) px := by
  have nb := nbl_tb (b := b) hI.2.1
  rw [hq] at nb
  have q4 := nb.1
  refine s_X12_readTag ht hI hq (by omega) (fun t hT M' h' => z1B (h1 _ (rest_t hT) M' _ h' rfl)) (fun hT M13 r13 => z0A ?_)
  refine r_sum hn E _ px M0 M13 q q c _ (by omega) ht (hI.rp r13 q4) (tb_id nb) hc (fun e he M' a1 a2 => z0B (h0 e (rest_e hT he) M' a1 a2)) (fun r hr M19 p19 a1 a2 => z1A ?_)
  obtain ⟨b1, b2, b3⟩ := seg_len g_sum nb hr
  have r4 := b1.1
  have e0 := rest_r hT hr
  have ht19 := ht.off a1.2.2.2.2.2
  have two : ∀ (s : Nat) (v : Int32) (M1 : zM), (v = 0 → s = 14) → (¬ v = 0 → s = 13) → pRest b n q c = pCmp b n s r.1 r.2 → lrI n M0 M1 d (r.1 + 1) r.2 → nbl b n (tb b n (r.1 + 1)) → r.1 < tb b n (r.1 + 1) → w_X12_readAtom_152 E (D1 + 7) post px v M1 := by
    intro s v M1 hs1 hs2 ep hI1 n1 n2
    refine t_X12_readAtom_152 (r_sum hn E _ px M0 M1 (r.1 + 1) _ r.2 _ (by omega) ht hI1 rfl (by omega) (fun e he M' a1 a2 => z0B (t_X12_readAtom_159 (h0 e (ep.trans (cmp_e he)) M' a1 a2))) (fun r' hr' M' p' a1 a2 => z1A ?_))
    obtain ⟨d1, d2, d3⟩ := seg_len g_sum n1 hr'
    have r5 := d1.1
    refine ⟨fun z => t_X12_readAtom_173 (s_X12_emits (x := (s, 0)) ?_ rfl a1 (by omega) (fun M2 h2 => h1 _ (ep.trans (cmp_r hr')) M2 p' h2 a2)), fun z => t_X12_readAtom_173 (s_X12_emits (x := (s, 0)) ?_ rfl a1 (by omega) (fun M2 h2 => h1 _ (ep.trans (cmp_r hr')) M2 p' h2 a2))⟩
    · rw [hs1 z]; rfl
    · rw [hs2 z]; rfl
  refine s_X12_sign (c := 60) rfl (by decide) ht19 a1.1 a1.2.1 a2 (fun y1 M25 r25 => z1A ?_) (fun y1 M25 r25 => z0B ?_)
  · rw [if_pos y1] at e0
    obtain ⟨n1, n2⟩ := sg_nx y1
    exact two 13 1 M25 (fun z => absurd z (by decide)) (fun _ => rfl) e0 (a1.rp r25 y1.1) n1 n2
  · rw [if_neg y1] at e0
    have a25 := a1.rp r25 r4
    refine s_X12_sign (c := 62) rfl (by decide) (ht.off a25.2.2.2.2.2) a25.1 a25.2.1 (tb_id b1) (fun y2 M31 r31 => z1B ?_) (fun y2 M31 r31 => z0A (t_X12_readAtom_159 ?_))
    · rw [if_pos y2] at e0
      obtain ⟨n1, n2⟩ := sg_nx y2
      exact two 14 0 M31 (fun _ => rfl) (fun z => absurd rfl z) e0 (a25.rp r31 y2.1) n1 n2
    · rw [if_neg y2] at e0
      exact h0 _ e0 M31 r31.2.1 (a25.rp r31 r4).2.2.2.2.2
theorem r_atom (hn : n ≤ 400) : ∀ r, r ≤ 6 → okR b n (8 + 3 * r) jX12_readAtom (6 - r) (pAtom b n r) := by
  intro r
  induction r with
  | zero =>
    intro _ E D px M0 M p q c post hD ht hI hq hc h0 h1
    obtain ⟨D1, rfl⟩ : ∃ D1, D = D1 + 8 := ⟨D - 8, by omega⟩
    have htM := ht.off hI.2.2.2.2.2
    have nb := nbl_tb (b := b) hI.2.1
    rw [hq] at nb
    have q4 := nb.1
    refine e_X12_readAtom (s_X12_sign (c := 40) rfl (by decide) htM hI.1 hI.2.1 hq (fun y M1 r1 => z1B ?_) (fun y1 M1 r1 => z0A ?_))
    · have h13 : M1.1 0 13 = 6 := (hI.rp r1 y.1).2.2.1
      exact ⟨fun z => absurd h13 z, fun _ => h0 q (atom_0 (Or.inl y)) M1 r1.2.1 (hI.rp r1 y.1).2.2.2.2.2⟩
    · have hI1 := hI.rp r1 q4
      refine s_X12_passes (w := 22) (by decide) (ht.off hI1.2.2.2.2.2) hI1.1 hI1.2.1 (tb_id nb) (fun y M7 r7 => z1B ?_) (fun y2 M7 r7 => z0A ?_)
      · have hI7 := hI1.rp r7 (wE_hi q4)
        have h13 : M7.1 0 13 = 6 := hI7.2.2.1
        exact ⟨fun z => absurd h13 z, fun _ => h0 q (atom_0 (Or.inr y)) M7 r7.2.1 hI7.2.2.2.2.2⟩
      · exact r_rest hn ht (hI1.rp r7 q4) (tb_id nb) hc (fun e he => h0 e ((atom_n y1 y2 0).trans he)) (fun r' hr' => h1 r' ((atom_n y1 y2 0).trans hr'))
  | succ r ih =>
    intro hr6 E D px M0 M p q c post hD ht hI hq hc h0 h1
    obtain ⟨D1, rfl⟩ : ∃ D1, D = D1 + 8 := ⟨D - 8, by omega⟩
    have hA := ih (by omega)
    have htM := ht.off hI.2.2.2.2.2
    have nb := nbl_tb (b := b) hI.2.1
    rw [hq] at nb
    have q4 := nb.1
    have n6 : ∀ x : Int32, x = nI (6 - (r + 1)) → ¬ x = 6 := fun x hx z => by
      have := (nI_eq (a := 6 - (r + 1)) (b := 6) (by omega) (by decide)).mp (hx.symm.trans z)
      omega
    have up : ∀ x : Int32, x = nI (6 - (r + 1)) → x + 1 = nI (6 - r) := fun x hx => by rw [hx, nI_1, show 6 - (r + 1) + 1 = 6 - r by omega]
    have dn : ∀ x : Int32, x = nI (6 - r) → x - 1 = nI (6 - (r + 1)) := fun x hx => by rw [hx, pk_pred (by omega), show 6 - r - 1 = 6 - (r + 1) by omega]
    refine e_X12_readAtom (s_X12_sign (c := 40) rfl (by decide) htM hI.1 hI.2.1 hq (fun y M1 r1 => z1B ?_) (fun y1 M1 r1 => z0A ?_))
    · have hI1 := hI.rp r1 y.1
      obtain ⟨n1, n2⟩ := sg_nx y
      have eA := atom_d (r := r) (c := c) (Or.inl y)
      rw [if_pos y] at eA
      refine ⟨fun _ M55 e55 => ?_, fun z => absurd z (n6 _ hI1.2.2.1)⟩
      have hI55 := hI1.deep e55 (up _ hI1.2.2.1)
      refine r_cond hn (g_atom r) (by omega) hA E _ px M0 M55 (q + 1) _ c _ (by omega) ht hI55 rfl (by omega) (fun e he M' a1 a2 => z0B (h0 e (eA.trans (paren_e he)) M' a1 a2)) (fun r' hr' M57 p57 a1 a2 => z1A (fun M63 e63 => ?_))
      have hI63 := a1.deep e63 (dn _ a1.2.2.1)
      obtain ⟨b1, b2, b3⟩ := seg_len (g_cond (g_atom r)) n1 hr'
      exact s_X12_sign (c := 41) rfl (by decide) (ht.off hI63.2.2.2.2.2) hI63.1 hI63.2.1 a2 (fun s M65 r65 => ⟨Or.inr rfl, h1 _ (eA.trans (paren_y hr' s)) M65 _ (hI63.rp r65 s.1) rfl⟩) (fun s M65 r65 => ⟨Or.inl rfl, h0 _ (eA.trans (paren_n hr' s)) M65 r65.2.1 (hI63.rp r65 b1.1).2.2.2.2.2⟩)
    · have hI1 := hI.rp r1 q4
      refine s_X12_passes (w := 22) (by decide) (ht.off hI1.2.2.2.2.2) hI1.1 hI1.2.1 (tb_id nb) (fun y M7 r7 => z1B ?_) (fun y2 M7 r7 => z0A ?_)
      · have hI7 := hI1.rp r7 (wE_hi q4)
        obtain ⟨n1, n2⟩ := wd_nx nb (by decide) y
        have eA := atom_d (r := r) (c := c) (Or.inr y)
        rw [if_neg y1] at eA
        refine ⟨fun _ M40 e40 => ?_, fun z => absurd z (n6 _ hI7.2.2.1)⟩
        have hI40 := hI7.deep e40 (up _ hI7.2.2.1)
        refine hA E _ px M0 M40 (wE b n q) _ c _ (by omega) ht hI40 rfl (by omega) (fun e he M' a1 a2 => z0B (h0 e (eA.trans (not_e he)) M' a1 a2)) (fun r' hr' M42 p42 a1 a2 => z1A (fun M48 e48 => ?_))
        have hI48 := a1.deep e48 (dn _ a1.2.2.1)
        obtain ⟨b1, b2, b3⟩ := seg_len (g_atom r) n1 hr'
        have r4 := b1.1
        exact s_X12_emits (x := (15, 0)) rfl rfl hI48 (by omega) (fun M50 h50 => h1 _ (eA.trans (not_r hr')) M50 _ h50 a2)
      · exact r_rest hn ht (hI1.rp r7 q4) (tb_id nb) hc (fun e he => h0 e ((atom_n y1 y2 (r + 1)).trans he)) (fun r' hr' => h1 r' ((atom_n y1 y2 (r + 1)).trans hr'))
end LAWR
