/-! ===== one number of a court changed: false, talk, texts ===== -/
theorem ok_lies {f : zRow} {v : Int32} (hk : okF f) (hv : isN v 100) : okF (upd f (8) v) := by
  have w5 := hk.w.2
  have t6 := hk.t.2
  have q8 := hk.q.2
  have k4 := hk.k.2
  have n0 : upd f (8) v 0 = f 0 := pk_un (by omega)
  have n1 : upd f (8) v 1 = f 1 := pk_un (by omega)
  have n2 : upd f (8) v 2 = f 2 := pk_un (by omega)
  have n3 : upd f (8) v 3 = f 3 := pk_un (by omega)
  obtain ⟨⟨a0, a1, a2, a3, a4, a5, a6, a7, a8, a9, a10⟩, b, c, d, e⟩ := hk
  refine ⟨⟨by rw [pk_un (by omega)]; exact a0, by rw [pk_un (by omega)]; exact a1, by rw [pk_un (by omega)]; exact a2, by rw [pk_un (by omega)]; exact a3, by rw [pk_un (by omega)]; exact a4, by rw [pk_un (by omega)]; exact a5, by rw [pk_un (by omega)]; exact a6, by rw [pk_un (by omega)]; exact a7, by rw [pk_us]; exact hv, by rw [pk_un (by omega)]; exact a9, by rw [pk_un (by omega)]; exact a10⟩, fun i hi => ?_, fun t ht => ?_, fun q hq => ?_, fun k hk => ?_⟩
  · rw [wN, n0] at hi
    have hi2 : i < wN f := hi
    obtain ⟨b1, b2, b3, b4, b5, b6, b7, b8, b9, b10⟩ := b i hi
    have l5 := b5.le (by decide)
    have l7 := b7.le (by decide)
    unfold okW
    rw [wN, n0, pk_un (show 29 + 5 * i ≠ 8 by omega), pk_un (show 29 + 5 * i + 1 ≠ 8 by omega), pk_un (show 29 + 5 * i + 2 ≠ 8 by omega), pk_un (show 29 + 5 * i + 3 ≠ 8 by omega), pk_un (show 29 + 5 * i + 4 ≠ 8 by omega), pk_un (show 24 + i ≠ 8 by omega), pk_un (show 24 + tn (f (29 + 5 * i + 4)) ≠ 8 by omega), pk_un (show 29 + 5 * tn (f (24 + i)) + 4 ≠ 8 by omega)]
    exact ⟨b1, b2, b3, b4, b5, b6, b7, b8, b9, b10⟩
  · rw [tN, n1] at ht
    have ht2 : t < tN f := ht
    have c1 := c t ht
    unfold okT at c1 ⊢
    rw [pk_un (show 54 + 3 * t ≠ 8 by omega), pk_un (show 54 + 3 * t + 1 ≠ 8 by omega), pk_un (show 54 + 3 * t + 2 ≠ 8 by omega)]
    exact c1
  · rw [qN, n2] at hq
    have hq2 : q < qN f := hq
    rw [tN, n1]
    rw [pk_un (show 12 + q ≠ 8 by omega)]; exact d q hq
  · rw [kN, n3] at hk
    have hk2 : k < kN f := hk
    rw [pk_un (show 20 + k ≠ 8 by omega)]; exact e k hk
theorem cr_lies {M M1 : zM} {b : Nat} {f : zRow} {v : Int32} (hk : okF f) (hc : cR M b f) (hs : ∀ o j, b ≤ o → o < b + 14 → ¬ (o = b ∧ j = 12) → M1.1 o j = M.1 o j) (hL : ∀ j, M1.2 (b + 9) j = M.2 (b + 9) j) (hv : M1.1 (b) (12) = v) : cR M1 b (upd f (8) v) := by
  have w5 := hk.w.2
  have t6 := hk.t.2
  have q8 := hk.q.2
  have k4 := hk.k.2
  have g60 := hk.g.2
  have n0 : upd f (8) v 0 = f 0 := pk_un (by omega)
  have n1 : upd f (8) v 1 = f 1 := pk_un (by omega)
  have n2 : upd f (8) v 2 = f 2 := pk_un (by omega)
  have n3 : upd f (8) v 3 = f 3 := pk_un (by omega)
  have n10 : upd f (8) v 10 = f 10 := pk_un (by omega)
  obtain ⟨⟨s0, s1, s2, s3, s4, s5, s6, s7, s8, s9, s10⟩, r, t, q, k, l1, nx, l2, l3, l4⟩ := hc
  have soE : soF (upd f (8) v) = soF f := by
    unfold soF
    rw [tN, n1]
    exact orI_cong fun i hi => by
      have hi2 : i < tN f := hi
      rw [pk_un (show 54 + 3 * i + 2 ≠ 8 by omega)]
  refine ⟨⟨by rw [hs _ _ (by omega) (by omega) (by omega), pk_un (by omega)]; exact s0, by rw [hs _ _ (by omega) (by omega) (by omega), pk_un (by omega)]; exact s1, by rw [hs _ _ (by omega) (by omega) (by omega), pk_un (by omega)]; exact s2, by rw [hs _ _ (by omega) (by omega) (by omega), pk_un (by omega)]; exact s3, by rw [hs _ _ (by omega) (by omega) (by omega), pk_un (by omega)]; exact s4, by rw [hs _ _ (by omega) (by omega) (by omega), s5, soE], by rw [hs _ _ (by omega) (by omega) (by omega), pk_un (by omega)]; exact s6, by rw [pk_us]; exact hv, by rw [hs _ _ (by omega) (by omega) (by omega), pk_un (by omega)]; exact s8, by rw [hs _ _ (by omega) (by omega) (by omega), pk_un (by omega)]; exact s9, by rw [hs _ _ (by omega) (by omega) (by omega), pk_un (by omega)]; exact s10⟩, fun i hi => ?_, fun i hi => ?_, fun i hi => ?_, fun i hi => ?_, ?_, nx, l2, ?_, fun i hi => ?_⟩
  · rw [wN, n0] at hi
    have hi2 : i < wN f := hi
    obtain ⟨r0, r1, r2, r3, r4, r5⟩ := r i hi
    exact ⟨by rw [hs _ _ (by omega) (by omega) (by omega), pk_un (show 29 + 5 * i ≠ 8 by omega)]; exact r0, by rw [hs _ _ (by omega) (by omega) (by omega), pk_un (show 29 + 5 * i + 1 ≠ 8 by omega)]; exact r1, by rw [hs _ _ (by omega) (by omega) (by omega), pk_un (show 29 + 5 * i + 2 ≠ 8 by omega)]; exact r2, by rw [hs _ _ (by omega) (by omega) (by omega), pk_un (show 29 + 5 * i + 3 ≠ 8 by omega)]; exact r3, by rw [hs _ _ (by omega) (by omega) (by omega), pk_un (show 29 + 5 * i + 4 ≠ 8 by omega)]; exact r4, by rw [hs _ _ (by omega) (by omega) (by omega), pk_un (show 24 + i ≠ 8 by omega)]; exact r5⟩
  · rw [tN, n1] at hi
    have hi2 : i < tN f := hi
    rw [hs _ _ (by omega) (by omega) (by omega), hs _ _ (by omega) (by omega) (by omega), pk_un (show 54 + 3 * i ≠ 8 by omega), pk_un (show 54 + 3 * i + 1 ≠ 8 by omega)]
    exact t i hi
  · rw [qN, n2] at hi
    have hi2 : i < qN f := hi
    rw [hs _ _ (by omega) (by omega) (by omega), pk_un (show 12 + i ≠ 8 by omega)]; exact q i hi
  · rw [kN, n3] at hi
    have hi2 : i < kN f := hi
    rw [hs _ _ (by omega) (by omega) (by omega), pk_un (show 20 + i ≠ 8 by omega)]; exact k i hi
  · rw [hs _ _ (by omega) (by omega) (by omega), n10]; exact l1
  · rw [hs _ _ (by omega) (by omega) (by omega)]; exact l3
  · rw [gN, n10] at hi
    have hi2 : i < gN f := hi
    rw [hL]
    have := l4 i hi
    unfold lgR at this ⊢
    rw [pk_un (show 72 + 5 * i ≠ 8 by omega), pk_un (show 72 + 5 * i + 1 ≠ 8 by omega), pk_un (show 72 + 5 * i + 2 ≠ 8 by omega), pk_un (show 72 + 5 * i + 3 ≠ 8 by omega), pk_un (show 72 + 5 * i + 4 ≠ 8 by omega)]
    exact this
theorem ok_talk {f : zRow} {v : Int32} (hk : okF f) (hv : isN v 100) : okF (upd f (9) v) := by
  have w5 := hk.w.2
  have t6 := hk.t.2
  have q8 := hk.q.2
  have k4 := hk.k.2
  have n0 : upd f (9) v 0 = f 0 := pk_un (by omega)
  have n1 : upd f (9) v 1 = f 1 := pk_un (by omega)
  have n2 : upd f (9) v 2 = f 2 := pk_un (by omega)
  have n3 : upd f (9) v 3 = f 3 := pk_un (by omega)
  obtain ⟨⟨a0, a1, a2, a3, a4, a5, a6, a7, a8, a9, a10⟩, b, c, d, e⟩ := hk
  refine ⟨⟨by rw [pk_un (by omega)]; exact a0, by rw [pk_un (by omega)]; exact a1, by rw [pk_un (by omega)]; exact a2, by rw [pk_un (by omega)]; exact a3, by rw [pk_un (by omega)]; exact a4, by rw [pk_un (by omega)]; exact a5, by rw [pk_un (by omega)]; exact a6, by rw [pk_un (by omega)]; exact a7, by rw [pk_un (by omega)]; exact a8, by rw [pk_us]; exact hv, by rw [pk_un (by omega)]; exact a10⟩, fun i hi => ?_, fun t ht => ?_, fun q hq => ?_, fun k hk => ?_⟩
  · rw [wN, n0] at hi
    have hi2 : i < wN f := hi
    obtain ⟨b1, b2, b3, b4, b5, b6, b7, b8, b9, b10⟩ := b i hi
    have l5 := b5.le (by decide)
    have l7 := b7.le (by decide)
    unfold okW
    rw [wN, n0, pk_un (show 29 + 5 * i ≠ 9 by omega), pk_un (show 29 + 5 * i + 1 ≠ 9 by omega), pk_un (show 29 + 5 * i + 2 ≠ 9 by omega), pk_un (show 29 + 5 * i + 3 ≠ 9 by omega), pk_un (show 29 + 5 * i + 4 ≠ 9 by omega), pk_un (show 24 + i ≠ 9 by omega), pk_un (show 24 + tn (f (29 + 5 * i + 4)) ≠ 9 by omega), pk_un (show 29 + 5 * tn (f (24 + i)) + 4 ≠ 9 by omega)]
    exact ⟨b1, b2, b3, b4, b5, b6, b7, b8, b9, b10⟩
  · rw [tN, n1] at ht
    have ht2 : t < tN f := ht
    have c1 := c t ht
    unfold okT at c1 ⊢
    rw [pk_un (show 54 + 3 * t ≠ 9 by omega), pk_un (show 54 + 3 * t + 1 ≠ 9 by omega), pk_un (show 54 + 3 * t + 2 ≠ 9 by omega)]
    exact c1
  · rw [qN, n2] at hq
    have hq2 : q < qN f := hq
    rw [tN, n1]
    rw [pk_un (show 12 + q ≠ 9 by omega)]; exact d q hq
  · rw [kN, n3] at hk
    have hk2 : k < kN f := hk
    rw [pk_un (show 20 + k ≠ 9 by omega)]; exact e k hk
theorem cr_talk {M M1 : zM} {b : Nat} {f : zRow} {v : Int32} (hk : okF f) (hc : cR M b f) (hs : ∀ o j, b ≤ o → o < b + 14 → ¬ (o = b ∧ j = 13) → M1.1 o j = M.1 o j) (hL : ∀ j, M1.2 (b + 9) j = M.2 (b + 9) j) (hv : M1.1 (b) (13) = v) : cR M1 b (upd f (9) v) := by
  have w5 := hk.w.2
  have t6 := hk.t.2
  have q8 := hk.q.2
  have k4 := hk.k.2
  have g60 := hk.g.2
  have n0 : upd f (9) v 0 = f 0 := pk_un (by omega)
  have n1 : upd f (9) v 1 = f 1 := pk_un (by omega)
  have n2 : upd f (9) v 2 = f 2 := pk_un (by omega)
  have n3 : upd f (9) v 3 = f 3 := pk_un (by omega)
  have n10 : upd f (9) v 10 = f 10 := pk_un (by omega)
  obtain ⟨⟨s0, s1, s2, s3, s4, s5, s6, s7, s8, s9, s10⟩, r, t, q, k, l1, nx, l2, l3, l4⟩ := hc
  have soE : soF (upd f (9) v) = soF f := by
    unfold soF
    rw [tN, n1]
    exact orI_cong fun i hi => by
      have hi2 : i < tN f := hi
      rw [pk_un (show 54 + 3 * i + 2 ≠ 9 by omega)]
  refine ⟨⟨by rw [hs _ _ (by omega) (by omega) (by omega), pk_un (by omega)]; exact s0, by rw [hs _ _ (by omega) (by omega) (by omega), pk_un (by omega)]; exact s1, by rw [hs _ _ (by omega) (by omega) (by omega), pk_un (by omega)]; exact s2, by rw [hs _ _ (by omega) (by omega) (by omega), pk_un (by omega)]; exact s3, by rw [hs _ _ (by omega) (by omega) (by omega), pk_un (by omega)]; exact s4, by rw [hs _ _ (by omega) (by omega) (by omega), s5, soE], by rw [hs _ _ (by omega) (by omega) (by omega), pk_un (by omega)]; exact s6, by rw [hs _ _ (by omega) (by omega) (by omega), pk_un (by omega)]; exact s7, by rw [pk_us]; exact hv, by rw [hs _ _ (by omega) (by omega) (by omega), pk_un (by omega)]; exact s9, by rw [hs _ _ (by omega) (by omega) (by omega), pk_un (by omega)]; exact s10⟩, fun i hi => ?_, fun i hi => ?_, fun i hi => ?_, fun i hi => ?_, ?_, nx, l2, ?_, fun i hi => ?_⟩
  · rw [wN, n0] at hi
    have hi2 : i < wN f := hi
    obtain ⟨r0, r1, r2, r3, r4, r5⟩ := r i hi
    exact ⟨by rw [hs _ _ (by omega) (by omega) (by omega), pk_un (show 29 + 5 * i ≠ 9 by omega)]; exact r0, by rw [hs _ _ (by omega) (by omega) (by omega), pk_un (show 29 + 5 * i + 1 ≠ 9 by omega)]; exact r1, by rw [hs _ _ (by omega) (by omega) (by omega), pk_un (show 29 + 5 * i + 2 ≠ 9 by omega)]; exact r2, by rw [hs _ _ (by omega) (by omega) (by omega), pk_un (show 29 + 5 * i + 3 ≠ 9 by omega)]; exact r3, by rw [hs _ _ (by omega) (by omega) (by omega), pk_un (show 29 + 5 * i + 4 ≠ 9 by omega)]; exact r4, by rw [hs _ _ (by omega) (by omega) (by omega), pk_un (show 24 + i ≠ 9 by omega)]; exact r5⟩
  · rw [tN, n1] at hi
    have hi2 : i < tN f := hi
    rw [hs _ _ (by omega) (by omega) (by omega), hs _ _ (by omega) (by omega) (by omega), pk_un (show 54 + 3 * i ≠ 9 by omega), pk_un (show 54 + 3 * i + 1 ≠ 9 by omega)]
    exact t i hi
  · rw [qN, n2] at hi
    have hi2 : i < qN f := hi
    rw [hs _ _ (by omega) (by omega) (by omega), pk_un (show 12 + i ≠ 9 by omega)]; exact q i hi
  · rw [kN, n3] at hi
    have hi2 : i < kN f := hi
    rw [hs _ _ (by omega) (by omega) (by omega), pk_un (show 20 + i ≠ 9 by omega)]; exact k i hi
  · rw [hs _ _ (by omega) (by omega) (by omega), n10]; exact l1
  · rw [hs _ _ (by omega) (by omega) (by omega)]; exact l3
  · rw [gN, n10] at hi
    have hi2 : i < gN f := hi
    rw [hL]
    have := l4 i hi
    unfold lgR at this ⊢
    rw [pk_un (show 72 + 5 * i ≠ 9 by omega), pk_un (show 72 + 5 * i + 1 ≠ 9 by omega), pk_un (show 72 + 5 * i + 2 ≠ 9 by omega), pk_un (show 72 + 5 * i + 3 ≠ 9 by omega), pk_un (show 72 + 5 * i + 4 ≠ 9 by omega)]
    exact this
theorem ok_texts {f : zRow} {v : Int32} (hk : okF f) (hv : isN v 12) : okF (upd f (4) v) := by
  have w5 := hk.w.2
  have t6 := hk.t.2
  have q8 := hk.q.2
  have k4 := hk.k.2
  have n0 : upd f (4) v 0 = f 0 := pk_un (by omega)
  have n1 : upd f (4) v 1 = f 1 := pk_un (by omega)
  have n2 : upd f (4) v 2 = f 2 := pk_un (by omega)
  have n3 : upd f (4) v 3 = f 3 := pk_un (by omega)
  obtain ⟨⟨a0, a1, a2, a3, a4, a5, a6, a7, a8, a9, a10⟩, b, c, d, e⟩ := hk
  refine ⟨⟨by rw [pk_un (by omega)]; exact a0, by rw [pk_un (by omega)]; exact a1, by rw [pk_un (by omega)]; exact a2, by rw [pk_un (by omega)]; exact a3, by rw [pk_us]; exact hv, by rw [pk_un (by omega)]; exact a5, by rw [pk_un (by omega)]; exact a6, by rw [pk_un (by omega)]; exact a7, by rw [pk_un (by omega)]; exact a8, by rw [pk_un (by omega)]; exact a9, by rw [pk_un (by omega)]; exact a10⟩, fun i hi => ?_, fun t ht => ?_, fun q hq => ?_, fun k hk => ?_⟩
  · rw [wN, n0] at hi
    have hi2 : i < wN f := hi
    obtain ⟨b1, b2, b3, b4, b5, b6, b7, b8, b9, b10⟩ := b i hi
    have l5 := b5.le (by decide)
    have l7 := b7.le (by decide)
    unfold okW
    rw [wN, n0, pk_un (show 29 + 5 * i ≠ 4 by omega), pk_un (show 29 + 5 * i + 1 ≠ 4 by omega), pk_un (show 29 + 5 * i + 2 ≠ 4 by omega), pk_un (show 29 + 5 * i + 3 ≠ 4 by omega), pk_un (show 29 + 5 * i + 4 ≠ 4 by omega), pk_un (show 24 + i ≠ 4 by omega), pk_un (show 24 + tn (f (29 + 5 * i + 4)) ≠ 4 by omega), pk_un (show 29 + 5 * tn (f (24 + i)) + 4 ≠ 4 by omega)]
    exact ⟨b1, b2, b3, b4, b5, b6, b7, b8, b9, b10⟩
  · rw [tN, n1] at ht
    have ht2 : t < tN f := ht
    have c1 := c t ht
    unfold okT at c1 ⊢
    rw [pk_un (show 54 + 3 * t ≠ 4 by omega), pk_un (show 54 + 3 * t + 1 ≠ 4 by omega), pk_un (show 54 + 3 * t + 2 ≠ 4 by omega)]
    exact c1
  · rw [qN, n2] at hq
    have hq2 : q < qN f := hq
    rw [tN, n1]
    rw [pk_un (show 12 + q ≠ 4 by omega)]; exact d q hq
  · rw [kN, n3] at hk
    have hk2 : k < kN f := hk
    rw [pk_un (show 20 + k ≠ 4 by omega)]; exact e k hk
theorem cr_texts {M M1 : zM} {b : Nat} {f : zRow} {v : Int32} (hk : okF f) (hc : cR M b f) (hs : ∀ o j, b ≤ o → o < b + 14 → ¬ (o = b ∧ j = 9) → M1.1 o j = M.1 o j) (hL : ∀ j, M1.2 (b + 9) j = M.2 (b + 9) j) (hv : M1.1 (b) (9) = v) : cR M1 b (upd f (4) v) := by
  have w5 := hk.w.2
  have t6 := hk.t.2
  have q8 := hk.q.2
  have k4 := hk.k.2
  have g60 := hk.g.2
  have n0 : upd f (4) v 0 = f 0 := pk_un (by omega)
  have n1 : upd f (4) v 1 = f 1 := pk_un (by omega)
  have n2 : upd f (4) v 2 = f 2 := pk_un (by omega)
  have n3 : upd f (4) v 3 = f 3 := pk_un (by omega)
  have n10 : upd f (4) v 10 = f 10 := pk_un (by omega)
  obtain ⟨⟨s0, s1, s2, s3, s4, s5, s6, s7, s8, s9, s10⟩, r, t, q, k, l1, nx, l2, l3, l4⟩ := hc
  have soE : soF (upd f (4) v) = soF f := by
    unfold soF
    rw [tN, n1]
    exact orI_cong fun i hi => by
      have hi2 : i < tN f := hi
      rw [pk_un (show 54 + 3 * i + 2 ≠ 4 by omega)]
  refine ⟨⟨by rw [hs _ _ (by omega) (by omega) (by omega), pk_un (by omega)]; exact s0, by rw [hs _ _ (by omega) (by omega) (by omega), pk_un (by omega)]; exact s1, by rw [hs _ _ (by omega) (by omega) (by omega), pk_un (by omega)]; exact s2, by rw [hs _ _ (by omega) (by omega) (by omega), pk_un (by omega)]; exact s3, by rw [pk_us]; exact hv, by rw [hs _ _ (by omega) (by omega) (by omega), s5, soE], by rw [hs _ _ (by omega) (by omega) (by omega), pk_un (by omega)]; exact s6, by rw [hs _ _ (by omega) (by omega) (by omega), pk_un (by omega)]; exact s7, by rw [hs _ _ (by omega) (by omega) (by omega), pk_un (by omega)]; exact s8, by rw [hs _ _ (by omega) (by omega) (by omega), pk_un (by omega)]; exact s9, by rw [hs _ _ (by omega) (by omega) (by omega), pk_un (by omega)]; exact s10⟩, fun i hi => ?_, fun i hi => ?_, fun i hi => ?_, fun i hi => ?_, ?_, nx, l2, ?_, fun i hi => ?_⟩
  · rw [wN, n0] at hi
    have hi2 : i < wN f := hi
    obtain ⟨r0, r1, r2, r3, r4, r5⟩ := r i hi
    exact ⟨by rw [hs _ _ (by omega) (by omega) (by omega), pk_un (show 29 + 5 * i ≠ 4 by omega)]; exact r0, by rw [hs _ _ (by omega) (by omega) (by omega), pk_un (show 29 + 5 * i + 1 ≠ 4 by omega)]; exact r1, by rw [hs _ _ (by omega) (by omega) (by omega), pk_un (show 29 + 5 * i + 2 ≠ 4 by omega)]; exact r2, by rw [hs _ _ (by omega) (by omega) (by omega), pk_un (show 29 + 5 * i + 3 ≠ 4 by omega)]; exact r3, by rw [hs _ _ (by omega) (by omega) (by omega), pk_un (show 29 + 5 * i + 4 ≠ 4 by omega)]; exact r4, by rw [hs _ _ (by omega) (by omega) (by omega), pk_un (show 24 + i ≠ 4 by omega)]; exact r5⟩
  · rw [tN, n1] at hi
    have hi2 : i < tN f := hi
    rw [hs _ _ (by omega) (by omega) (by omega), hs _ _ (by omega) (by omega) (by omega), pk_un (show 54 + 3 * i ≠ 4 by omega), pk_un (show 54 + 3 * i + 1 ≠ 4 by omega)]
    exact t i hi
  · rw [qN, n2] at hi
    have hi2 : i < qN f := hi
    rw [hs _ _ (by omega) (by omega) (by omega), pk_un (show 12 + i ≠ 4 by omega)]; exact q i hi
  · rw [kN, n3] at hi
    have hi2 : i < kN f := hi
    rw [hs _ _ (by omega) (by omega) (by omega), pk_un (show 20 + i ≠ 4 by omega)]; exact k i hi
  · rw [hs _ _ (by omega) (by omega) (by omega), n10]; exact l1
  · rw [hs _ _ (by omega) (by omega) (by omega)]; exact l3
  · rw [gN, n10] at hi
    have hi2 : i < gN f := hi
    rw [hL]
    have := l4 i hi
    unfold lgR at this ⊢
    rw [pk_un (show 72 + 5 * i ≠ 4 by omega), pk_un (show 72 + 5 * i + 1 ≠ 4 by omega), pk_un (show 72 + 5 * i + 2 ≠ 4 by omega), pk_un (show 72 + 5 * i + 3 ≠ 4 by omega), pk_un (show 72 + 5 * i + 4 ≠ 4 by omega)]
    exact this
