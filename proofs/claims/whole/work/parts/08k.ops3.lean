/-! ===== seed, change ===== -/
section OPC
variable {f : zRow} {E : zEv} {D : Nat} {post : zM → Prop} {px : String → zM → Prop} {M : zM} {K : zM → Prop}
/-- the court changed on both sides, nothing else -/
theorem Rel.set {M M2 : zM} (h : Rel M) (g : ∀ o j, irr o j = false → (o < 61 ∨ 75 ≤ o) → ¬ (o = 1 ∧ j < 372) → M2.1 o j = M.1 o j ∧ M2.2 o j = M.2 o j) (hk : okF (M2.1 1)) (hc : cR M2 61 (M2.1 1)) (h5 : M2.1 1 5 = M.1 1 5) : Rel M2 := by
  refine Rel.of ⟨hk, hc, ?_, ?_, ?_, ?_, ?_⟩
  · refine lawR_same h5 (fun j hj => (g 1 _ rfl (by omega) (by omega)).1) (g 36 6 rfl (by omega) (by omega)).1 (fun i j h1 h2 h3 => (g _ j (irr_far (by omega) (by omega) (by omega)) (by omega) (by omega)).1) (fun j hj => (g _ j rfl (by omega) (by omega)).1) h.law
  · exact tapeR_same h.tape (g 20 1 rfl (by omega) (by omega)).1 (g 0 9 rfl (by omega) (by omega)).1 (fun j => (g 21 j rfl (by omega) (by omega)).1) (fun j => (g 6 j rfl (by omega) (by omega)).1)
  · rw [(g 19 11 rfl (by omega) (by omega)).1, (g 0 14 rfl (by omega) (by omega)).1]
    exact h.wrong
  · exact imgR_same h.img (g 19 12 rfl (by omega) (by omega)).1 (g 0 6 rfl (by omega) (by omega)).1 (fun j => (g 2 j rfl (by omega) (by omega)).1) (fun o j h1 h2 => g o j (irr_hi (by omega)) (by omega) (by omega)) (fun o j h1 h2 => (g o j (irr_far (by omega) (by omega) (by omega)) (by omega) (by omega)).1)
  · obtain ⟨n, nx, c1, c2, c3, c4, c5, c6⟩ := h.his
    refine ⟨n, nx, c1, c2, ?_, ?_, ?_, fun k hk => ?_⟩
    · rw [(g 0 7 rfl (by omega) (by omega)).1]; exact c3
    · rw [(g 59 1 rfl (by omega) (by omega)).1]; exact c4
    · rw [(g 59 2 rfl (by omega) (by omega)).1]; exact c5
    · obtain ⟨f1, f2, f3⟩ := c6 k hk
      have hz := zc_lo ((nx + 11 - k) % 12)
      have er : ∀ j, j < 372 → M2.1 5 (372 * (n - 1 - k) + j) = M.1 5 (372 * (n - 1 - k) + j) := fun j _ => (g 5 _ rfl (by omega) (by omega)).1
      exact ⟨okF_f er f1, cR_f er f1 (cR_same (fun o j h1 h2 => g o j (irr_hi (by omega)) (by omega) (by omega)) f1 f2), by rw [er 5 (by decide), h5]; exact f3⟩
/-- the two sides of a call that doesn't throw -/
def opN (E : zEv) (JX : zJ) (D : Nat) (as : List Value) (K : zM → Prop) (a : Int32) (M1 : zM) : Prop := ∀ px : String → zM → Prop, zCi E JX D 0 as M1 (fun b M2 => a = b ∧ K M2) px
theorem n11 : ((11 : Int32)).toNatClampNeg = 11 := rfl
theorem op_seed {x : Int32} (h : Rel M) (hK : ∀ M', Rel M' → K M') : zCi E jX11_seed D 0 [.ref 19, .int x] M (opN E jX12_seed D [.ref 0, .int x] K) px := by
  refine e_X11_seed (fun M1 e1 px => e_X12_seed (fun M2 e2 M3 e3 => ⟨?_, hK _ ?_⟩))
  · rw [e2, n11, zup_o (by decide), e1, zup_o (by decide)]
    exact h.now.1.2.2.2.2.2.2.2.2.2.2
  · rw [n11] at e3
    have hw : M3.1 1 = upd (M.1 1) 11 x := by rw [e3, zup_row, e2, zup_o (by decide), e1, zup_o (by decide)]
    refine h.set (fun o j h1 h2 h3 => ?_) (by rw [hw]; exact ok_seed h.ok) (by
      rw [hw]
      refine cr_seed h.ok h.now (fun o j h1 h2 h3 => ?_) (fun j => ?_) ?_
      · rw [e3, zup_o (by omega), e2, zup_o (by omega), e1, zup_n (by omega)]
      · rw [e3, zup_L, e2, zup_L, e1, zup_L]
      · rw [e3, zup_o (by decide), e2, zup_o (by decide), e1, zup_s]) (by rw [hw]; exact pk_un (by decide))
    have hne : ¬ (o = 0 ∧ j = 0) := by
      rintro ⟨rfl, rfl⟩
      cases h1
    exact ⟨by rw [e3, zup_n (by omega), e2, zup_n (by omega), e1, zup_o (by omega)], by rw [e3, zup_L, e2, zup_L, e1, zup_L]⟩
theorem tn_nI {n : Nat} (h : n < 2 ^ 31) : tn (nI n) = n := nI_clamp h
/-- two witnesses change places -/
def chF (f : zRow) (a b pa pb : Nat) : zRow := upd (upd (upd (upd f (29 + 5 * a + 4) (nI pb)) (29 + 5 * b + 4) (nI pa)) (24 + pb) (nI a)) (24 + pa) (nI b)
theorem chF_out {a b pa pb j : Nat} (h1 : j ≠ 29 + 5 * a + 4) (h2 : j ≠ 29 + 5 * b + 4) (h3 : j ≠ 24 + pb) (h4 : j ≠ 24 + pa) : chF f a b pa pb j = f j := by
  unfold chF
  rw [pk_un h4, pk_un h3, pk_un h2, pk_un h1]
section CH
variable {a b pa pb : Nat}
theorem ch_pa (hab : a ≠ b) (ha : pa < 5) (hb : pb < 5) : chF f a b pa pb (29 + 5 * a + 4) = nI pb := by
  unfold chF
  rw [pk_un (by omega), pk_un (by omega), pk_un (by omega), pk_us]
theorem ch_pb (ha : pa < 5) (hb : pb < 5) : chF f a b pa pb (29 + 5 * b + 4) = nI pa := by
  unfold chF
  rw [pk_un (by omega), pk_un (by omega), pk_us]
theorem ch_po {i : Nat} (ha : pa < 5) (hb : pb < 5) (h1 : i ≠ a) (h2 : i ≠ b) : chF f a b pa pb (29 + 5 * i + 4) = f (29 + 5 * i + 4) := chF_out (by omega) (by omega) (by omega) (by omega)
theorem ch_ra (h : pa ≠ pb) : chF f a b pa pb (24 + pb) = nI a := by
  unfold chF
  rw [pk_un (by omega), pk_us]
theorem ch_rb : chF f a b pa pb (24 + pa) = nI b := by
  unfold chF
  rw [pk_us]
theorem ch_ro {i : Nat} (hi : i < 5) (h1 : i ≠ pa) (h2 : i ≠ pb) : chF f a b pa pb (24 + i) = f (24 + i) := chF_out (by omega) (by omega) (by omega) (by omega)
theorem ok_ch (hk : okF f) (ha : a < wN f) (hb : b < wN f) (hab : a ≠ b) (hpa : f (29 + 5 * a + 4) = nI pa) (hpb : f (29 + 5 * b + 4) = nI pb) (la : pa < wN f) (lb : pb < wN f) (hne : pa ≠ pb) : okF (chF f a b pa pb) := by
  have w5 := hk.w.2
  have t6 := hk.t.2
  have q8 := hk.q.2
  have k4 := hk.k.2
  have o : ∀ j, (j < 24 ∨ 54 ≤ j) → chF f a b pa pb j = f j := fun j hj => chF_out (by omega) (by omega) (by omega) (by omega)
  have ra : f (24 + pa) = nI a := by
    have := (hk.2.1 a ha).2.2.2.2.2.2.2.2.1
    rw [hpa, tn, nI_clamp (by omega)] at this
    exact this
  have rb : f (24 + pb) = nI b := by
    have := (hk.2.1 b hb).2.2.2.2.2.2.2.2.1
    rw [hpb, tn, nI_clamp (by omega)] at this
    exact this
  obtain ⟨h1, h2, h3, h4, h5⟩ := hk
  refine ⟨?_, fun i hi => ?_, fun t ht => ?_, fun q hq => ?_, fun k hk => ?_⟩
  · rw [o 0 (by decide), o 1 (by decide), o 2 (by decide), o 3 (by decide), o 4 (by decide), o 5 (by decide), o 6 (by decide), o 7 (by decide), o 8 (by decide), o 9 (by decide), o 10 (by decide)]
    exact h1
  · rw [wN, o 0 (by decide)] at hi
    have hi2 : i < wN f := hi
    obtain ⟨b1, b2, b3, b4, b5, b6, b7, b8, b9, b10⟩ := h2 i hi
    obtain ⟨pi, hpi, epi⟩ := b5
    obtain ⟨ri, hri, eri⟩ := b7
    rw [epi, tn, nI_clamp (by omega)] at b6 b9
    rw [eri, tn, nI_clamp (by omega)] at b8 b10
    unfold okW
    rw [wN, o 0 (by decide), chF_out (show 29 + 5 * i ≠ 29 + 5 * a + 4 by omega) (by omega) (by omega) (by omega), chF_out (show 29 + 5 * i + 1 ≠ 29 + 5 * a + 4 by omega) (by omega) (by omega) (by omega), chF_out (show 29 + 5 * i + 2 ≠ 29 + 5 * a + 4 by omega) (by omega) (by omega) (by omega), chF_out (show 29 + 5 * i + 3 ≠ 29 + 5 * a + 4 by omega) (by omega) (by omega) (by omega)]
    refine ⟨b1, b2, b3, b4, ?_⟩
    -- the place, the row, each by cases
    have place : ∃ p, p < wN f ∧ chF f a b pa pb (29 + 5 * i + 4) = nI p ∧ chF f a b pa pb (24 + p) = nI i := by
      by_cases c1 : i = a
      · subst c1
        exact ⟨pb, lb, ch_pa hab (by omega) (by omega), ch_ra hne⟩
      · by_cases c2 : i = b
        · subst c2
          exact ⟨pa, la, ch_pb (by omega) (by omega), ch_rb⟩
        · refine ⟨pi, b6, by rw [ch_po (by omega) (by omega) c1 c2]; exact epi, ?_⟩
          rw [ch_ro (by omega) ?_ ?_]
          · exact b9
          · rintro rfl
            exact c1 ((nI_eq (by omega) (by omega)).mp (b9.symm.trans ra))
          · rintro rfl
            exact c2 ((nI_eq (by omega) (by omega)).mp (b9.symm.trans rb))
    have row : ∃ r, r < wN f ∧ chF f a b pa pb (24 + i) = nI r ∧ chF f a b pa pb (29 + 5 * r + 4) = nI i := by
      by_cases c1 : i = pb
      · subst c1
        exact ⟨a, ha, ch_ra hne, ch_pa hab (by omega) (by omega)⟩
      · by_cases c2 : i = pa
        · subst c2
          exact ⟨b, hb, ch_rb, ch_pb (by omega) (by omega)⟩
        · refine ⟨ri, b8, by rw [ch_ro (by omega) c2 c1]; exact eri, ?_⟩
          rw [ch_po (by omega) (by omega) ?_ ?_]
          · exact b10
          · rintro rfl
            exact c2 ((nI_eq (by omega) (by omega)).mp (b10.symm.trans hpa))
          · rintro rfl
            exact c1 ((nI_eq (by omega) (by omega)).mp (b10.symm.trans hpb))
    obtain ⟨p, lp, ep, ep2⟩ := place
    obtain ⟨r, lr, er, er2⟩ := row
    rw [ep, er, tn_nI (n := p) (by omega), tn_nI (n := r) (by omega)]
    exact ⟨isN.of (by omega), lp, isN.of (by omega), lr, ep2, er2⟩
  · rw [tN, o 1 (by decide)] at ht
    have ht2 : t < tN f := ht
    unfold okT
    rw [o _ (by omega), o (54 + 3 * t + 1) (by omega), o (54 + 3 * t + 2) (by omega)]
    exact h3 t ht
  · rw [qN, o 2 (by decide)] at hq
    have hq2 : q < qN f := hq
    rw [tN, o 1 (by decide), o _ (by omega)]
    exact h4 q hq
  · rw [kN, o 3 (by decide)] at hk
    have hk2 : k < kN f := hk
    rw [o _ (by omega)]
    exact h5 k hk
theorem cr_ch {M M1 : zM} (hk : okF f) (ha : a < wN f) (hb : b < wN f) (hab : a ≠ b) (la : pa < wN f) (lb : pb < wN f) (hne : pa ≠ pb) (hc : cR M 61 f) (hs : ∀ o j, 61 ≤ o → o < 61 + 14 → o ≠ 67 → o ≠ 68 → M1.1 o j = M.1 o j) (hL : ∀ j, M1.2 (61 + 9) j = M.2 (61 + 9) j) (h67 : ∀ i, i < wN f → M1.1 67 i = if i = a then nI pb else if i = b then nI pa else M.1 67 i) (h68 : ∀ i, i < wN f → M1.1 68 i = if i = pa then nI b else if i = pb then nI a else M.1 68 i) : cR M1 61 (chF f a b pa pb) := by
  have w5 := hk.w.2
  have t6 := hk.t.2
  have q8 := hk.q.2
  have k4 := hk.k.2
  have g60 := hk.g.2
  have o : ∀ j, (j < 24 ∨ 54 ≤ j) → chF f a b pa pb j = f j := fun j hj => chF_out (by omega) (by omega) (by omega) (by omega)
  obtain ⟨⟨s0, s1, s2, s3, s4, s5, s6, s7, s8, s9, s10⟩, r, t, q, k, l1, nx, l2, l3, l4⟩ := hc
  have soE : soF (chF f a b pa pb) = soF f := by
    unfold soF
    rw [tN, o 1 (by decide)]
    exact orI_cong fun i hi => by rw [o (54 + 3 * i + 2) (by omega)]
  refine ⟨?_, fun i hi => ?_, fun i hi => ?_, fun i hi => ?_, fun i hi => ?_, ?_, nx, l2, ?_, fun i hi => ?_⟩
  · unfold cR1
    rw [soE, o 0 (by decide), o 1 (by decide), o 2 (by decide), o 3 (by decide), o 4 (by decide), o 6 (by decide), o 7 (by decide), o 8 (by decide), o 9 (by decide), o 11 (by decide)]
    refine ⟨by rw [hs _ _ (by decide) (by decide) (by decide) (by decide)]; exact s0, ?_⟩
    have e : ∀ j, M1.1 61 j = M.1 61 j := fun j => hs 61 j (by decide) (by decide) (by decide) (by decide)
    simp only [e]
    exact ⟨s1, s2, s3, s4, s5, s6, s7, s8, s9, s10⟩
  · rw [wN, o 0 (by decide)] at hi
    have hi2 : i < wN f := hi
    obtain ⟨r0, r1, r2, r3, r4, r5⟩ := r i hi
    refine ⟨?_, ?_, ?_, ?_, ?_, ?_⟩
    · rw [hs _ _ (by decide) (by decide) (by decide) (by decide), chF_out (by omega) (by omega) (by omega) (by omega)]; exact r0
    · rw [hs _ _ (by decide) (by decide) (by decide) (by decide), chF_out (by omega) (by omega) (by omega) (by omega)]; exact r1
    · rw [hs _ _ (by decide) (by decide) (by decide) (by decide), chF_out (by omega) (by omega) (by omega) (by omega)]; exact r2
    · rw [hs _ _ (by decide) (by decide) (by decide) (by decide), chF_out (by omega) (by omega) (by omega) (by omega)]; exact r3
    · show M1.1 67 i = _
      rw [h67 i hi]
      by_cases c1 : i = a
      · subst c1; rw [if_pos rfl, ch_pa hab (by omega) (by omega)]
      · rw [if_neg c1]
        by_cases c2 : i = b
        · subst c2; rw [if_pos rfl, ch_pb (by omega) (by omega)]
        · rw [if_neg c2, ch_po (by omega) (by omega) c1 c2]; exact r4
    · show M1.1 68 i = _
      rw [h68 i hi]
      by_cases c1 : i = pa
      · subst c1; rw [if_pos rfl, ch_rb]
      · rw [if_neg c1]
        by_cases c2 : i = pb
        · subst c2; rw [if_pos rfl, ch_ra hne]
        · rw [if_neg c2, ch_ro (by omega) c1 c2]; exact r5
  · rw [tN, o 1 (by decide)] at hi
    have hi2 : i < tN f := hi
    rw [hs _ _ (by decide) (by decide) (by decide) (by decide), hs _ _ (by decide) (by decide) (by decide) (by decide), o _ (by omega), o (54 + 3 * i + 1) (by omega)]
    exact t i hi
  · rw [qN, o 2 (by decide)] at hi
    have hi2 : i < qN f := hi
    rw [hs _ _ (by decide) (by decide) (by decide) (by decide), o _ (by omega)]; exact q i hi
  · rw [kN, o 3 (by decide)] at hi
    have hi2 : i < kN f := hi
    rw [hs _ _ (by decide) (by decide) (by decide) (by decide), o _ (by omega)]; exact k i hi
  · rw [hs _ _ (by decide) (by decide) (by decide) (by decide), o 10 (by decide)]; exact l1
  · rw [hs _ _ (by decide) (by decide) (by decide) (by decide)]; exact l3
  · rw [gN, o 10 (by decide)] at hi
    rw [hL]
    have := l4 i hi
    unfold lgR at this ⊢
    rw [o (72 + 5 * i) (by omega), o (72 + 5 * i + 1) (by omega), o (72 + 5 * i + 2) (by omega), o (72 + 5 * i + 3) (by omega), o (72 + 5 * i + 4) (by omega)]
    exact this
end CH
end OPC
