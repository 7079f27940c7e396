/-! ===== one number of a court changed ===== -/
theorem ok_heat {f : zRow} {v : Int32} (hk : okF f) (hv : isN v 9) : okF (upd f (7) v) := by
  have w5 := hk.w.2
  have t6 := hk.t.2
  have q8 := hk.q.2
  have k4 := hk.k.2
  have n0 : upd f (7) v 0 = f 0 := pk_un (by omega)
  have n1 : upd f (7) v 1 = f 1 := pk_un (by omega)
  have n2 : upd f (7) v 2 = f 2 := pk_un (by omega)
  have n3 : upd f (7) v 3 = f 3 := pk_un (by omega)
  obtain ⟨⟨a0, a1, a2, a3, a4, a5, a6, a7, a8, a9, a10⟩, b, c, d, e⟩ := hk
  refine ⟨⟨by rw [pk_un (by omega)]; exact a0, by rw [pk_un (by omega)]; exact a1, by rw [pk_un (by omega)]; exact a2, by rw [pk_un (by omega)]; exact a3, by rw [pk_un (by omega)]; exact a4, by rw [pk_un (by omega)]; exact a5, by rw [pk_un (by omega)]; exact a6, by rw [pk_us]; exact hv, by rw [pk_un (by omega)]; exact a8, by rw [pk_un (by omega)]; exact a9, by rw [pk_un (by omega)]; exact a10⟩, fun i hi => ?_, fun t ht => ?_, fun q hq => ?_, fun k hk => ?_⟩
  · rw [wN, n0] at hi
    have hi2 : i < wN f := hi
    obtain ⟨b1, b2, b3, b4, b5, b6, b7, b8, b9, b10⟩ := b i hi
    have l5 := b5.le (by decide)
    have l7 := b7.le (by decide)
    unfold okW
    rw [wN, n0, pk_un (show 29 + 5 * i ≠ 7 by omega), pk_un (show 29 + 5 * i + 1 ≠ 7 by omega), pk_un (show 29 + 5 * i + 2 ≠ 7 by omega), pk_un (show 29 + 5 * i + 3 ≠ 7 by omega), pk_un (show 29 + 5 * i + 4 ≠ 7 by omega), pk_un (show 24 + i ≠ 7 by omega), pk_un (show 24 + tn (f (29 + 5 * i + 4)) ≠ 7 by omega), pk_un (show 29 + 5 * tn (f (24 + i)) + 4 ≠ 7 by omega)]
    exact ⟨b1, b2, b3, b4, b5, b6, b7, b8, b9, b10⟩
  · rw [tN, n1] at ht
    have ht2 : t < tN f := ht
    have c1 := c t ht
    unfold okT at c1 ⊢
    rw [pk_un (show 54 + 3 * t ≠ 7 by omega), pk_un (show 54 + 3 * t + 1 ≠ 7 by omega), pk_un (show 54 + 3 * t + 2 ≠ 7 by omega)]
    exact c1
  · rw [qN, n2] at hq
    have hq2 : q < qN f := hq
    rw [tN, n1]
    rw [pk_un (show 12 + q ≠ 7 by omega)]; exact d q hq
  · rw [kN, n3] at hk
    have hk2 : k < kN f := hk
    rw [pk_un (show 20 + k ≠ 7 by omega)]; exact e k hk
theorem cr_heat {M M1 : zM} {b : Nat} {f : zRow} {v : Int32} (hk : okF f) (hc : cR M b f) (hs : ∀ o j, b ≤ o → o < b + 14 → ¬ (o = b ∧ j = 11) → M1.1 o j = M.1 o j) (hL : ∀ j, M1.2 (b + 9) j = M.2 (b + 9) j) (hv : M1.1 (b) (11) = v) : cR M1 b (upd f (7) v) := by
  have w5 := hk.w.2
  have t6 := hk.t.2
  have q8 := hk.q.2
  have k4 := hk.k.2
  have g60 := hk.g.2
  have n0 : upd f (7) v 0 = f 0 := pk_un (by omega)
  have n1 : upd f (7) v 1 = f 1 := pk_un (by omega)
  have n2 : upd f (7) v 2 = f 2 := pk_un (by omega)
  have n3 : upd f (7) v 3 = f 3 := pk_un (by omega)
  have n10 : upd f (7) v 10 = f 10 := pk_un (by omega)
  obtain ⟨⟨s0, s1, s2, s3, s4, s5, s6, s7, s8, s9, s10⟩, r, t, q, k, l1, nx, l2, l3, l4⟩ := hc
  have soE : soF (upd f (7) v) = soF f := by
    unfold soF
    rw [tN, n1]
    exact orI_cong fun i hi => by
      have hi2 : i < tN f := hi
      rw [pk_un (show 54 + 3 * i + 2 ≠ 7 by omega)]
  refine ⟨⟨by rw [hs _ _ (by omega) (by omega) (by omega), pk_un (by omega)]; exact s0, by rw [hs _ _ (by omega) (by omega) (by omega), pk_un (by omega)]; exact s1, by rw [hs _ _ (by omega) (by omega) (by omega), pk_un (by omega)]; exact s2, by rw [hs _ _ (by omega) (by omega) (by omega), pk_un (by omega)]; exact s3, by rw [hs _ _ (by omega) (by omega) (by omega), pk_un (by omega)]; exact s4, by rw [hs _ _ (by omega) (by omega) (by omega), s5, soE], by rw [pk_us]; exact hv, by rw [hs _ _ (by omega) (by omega) (by omega), pk_un (by omega)]; exact s7, by rw [hs _ _ (by omega) (by omega) (by omega), pk_un (by omega)]; exact s8, by rw [hs _ _ (by omega) (by omega) (by omega), pk_un (by omega)]; exact s9, by rw [hs _ _ (by omega) (by omega) (by omega), pk_un (by omega)]; exact s10⟩, fun i hi => ?_, fun i hi => ?_, fun i hi => ?_, fun i hi => ?_, ?_, nx, l2, ?_, fun i hi => ?_⟩
  · rw [wN, n0] at hi
    have hi2 : i < wN f := hi
    obtain ⟨r0, r1, r2, r3, r4, r5⟩ := r i hi
    exact ⟨by rw [hs _ _ (by omega) (by omega) (by omega), pk_un (show 29 + 5 * i ≠ 7 by omega)]; exact r0, by rw [hs _ _ (by omega) (by omega) (by omega), pk_un (show 29 + 5 * i + 1 ≠ 7 by omega)]; exact r1, by rw [hs _ _ (by omega) (by omega) (by omega), pk_un (show 29 + 5 * i + 2 ≠ 7 by omega)]; exact r2, by rw [hs _ _ (by omega) (by omega) (by omega), pk_un (show 29 + 5 * i + 3 ≠ 7 by omega)]; exact r3, by rw [hs _ _ (by omega) (by omega) (by omega), pk_un (show 29 + 5 * i + 4 ≠ 7 by omega)]; exact r4, by rw [hs _ _ (by omega) (by omega) (by omega), pk_un (show 24 + i ≠ 7 by omega)]; exact r5⟩
  · rw [tN, n1] at hi
    have hi2 : i < tN f := hi
    rw [hs _ _ (by omega) (by omega) (by omega), hs _ _ (by omega) (by omega) (by omega), pk_un (show 54 + 3 * i ≠ 7 by omega), pk_un (show 54 + 3 * i + 1 ≠ 7 by omega)]
    exact t i hi
  · rw [qN, n2] at hi
    have hi2 : i < qN f := hi
    rw [hs _ _ (by omega) (by omega) (by omega), pk_un (show 12 + i ≠ 7 by omega)]; exact q i hi
  · rw [kN, n3] at hi
    have hi2 : i < kN f := hi
    rw [hs _ _ (by omega) (by omega) (by omega), pk_un (show 20 + i ≠ 7 by omega)]; exact k i hi
  · rw [hs _ _ (by omega) (by omega) (by omega), n10]; exact l1
  · rw [hs _ _ (by omega) (by omega) (by omega)]; exact l3
  · rw [gN, n10] at hi
    have hi2 : i < gN f := hi
    rw [hL]
    have := l4 i hi
    unfold lgR at this ⊢
    rw [pk_un (show 72 + 5 * i ≠ 7 by omega), pk_un (show 72 + 5 * i + 1 ≠ 7 by omega), pk_un (show 72 + 5 * i + 2 ≠ 7 by omega), pk_un (show 72 + 5 * i + 3 ≠ 7 by omega), pk_un (show 72 + 5 * i + 4 ≠ 7 by omega)]
    exact this
theorem ok_moment {f : zRow} {v : Int32} (hk : okF f) (hv : isN v 9999) : okF (upd f (6) v) := by
  have w5 := hk.w.2
  have t6 := hk.t.2
  have q8 := hk.q.2
  have k4 := hk.k.2
  have n0 : upd f (6) v 0 = f 0 := pk_un (by omega)
  have n1 : upd f (6) v 1 = f 1 := pk_un (by omega)
  have n2 : upd f (6) v 2 = f 2 := pk_un (by omega)
  have n3 : upd f (6) v 3 = f 3 := pk_un (by omega)
  obtain ⟨⟨a0, a1, a2, a3, a4, a5, a6, a7, a8, a9, a10⟩, b, c, d, e⟩ := hk
  refine ⟨⟨by rw [pk_un (by omega)]; exact a0, by rw [pk_un (by omega)]; exact a1, by rw [pk_un (by omega)]; exact a2, by rw [pk_un (by omega)]; exact a3, by rw [pk_un (by omega)]; exact a4, by rw [pk_un (by omega)]; exact a5, by rw [pk_us]; exact hv, by rw [pk_un (by omega)]; exact a7, by rw [pk_un (by omega)]; exact a8, by rw [pk_un (by omega)]; exact a9, by rw [pk_un (by omega)]; exact a10⟩, fun i hi => ?_, fun t ht => ?_, fun q hq => ?_, fun k hk => ?_⟩
  · rw [wN, n0] at hi
    have hi2 : i < wN f := hi
    obtain ⟨b1, b2, b3, b4, b5, b6, b7, b8, b9, b10⟩ := b i hi
    have l5 := b5.le (by decide)
    have l7 := b7.le (by decide)
    unfold okW
    rw [wN, n0, pk_un (show 29 + 5 * i ≠ 6 by omega), pk_un (show 29 + 5 * i + 1 ≠ 6 by omega), pk_un (show 29 + 5 * i + 2 ≠ 6 by omega), pk_un (show 29 + 5 * i + 3 ≠ 6 by omega), pk_un (show 29 + 5 * i + 4 ≠ 6 by omega), pk_un (show 24 + i ≠ 6 by omega), pk_un (show 24 + tn (f (29 + 5 * i + 4)) ≠ 6 by omega), pk_un (show 29 + 5 * tn (f (24 + i)) + 4 ≠ 6 by omega)]
    exact ⟨b1, b2, b3, b4, b5, b6, b7, b8, b9, b10⟩
  · rw [tN, n1] at ht
    have ht2 : t < tN f := ht
    have c1 := c t ht
    unfold okT at c1 ⊢
    rw [pk_un (show 54 + 3 * t ≠ 6 by omega), pk_un (show 54 + 3 * t + 1 ≠ 6 by omega), pk_un (show 54 + 3 * t + 2 ≠ 6 by omega)]
    exact c1
  · rw [qN, n2] at hq
    have hq2 : q < qN f := hq
    rw [tN, n1]
    rw [pk_un (show 12 + q ≠ 6 by omega)]; exact d q hq
  · rw [kN, n3] at hk
    have hk2 : k < kN f := hk
    rw [pk_un (show 20 + k ≠ 6 by omega)]; exact e k hk
theorem cr_moment {M M1 : zM} {b : Nat} {f : zRow} {v : Int32} (hk : okF f) (hc : cR M b f) (hs : ∀ o j, b ≤ o → o < b + 14 → ¬ (o = b ∧ j = 14) → M1.1 o j = M.1 o j) (hL : ∀ j, M1.2 (b + 9) j = M.2 (b + 9) j) (hv : M1.1 (b) (14) = v) : cR M1 b (upd f (6) v) := by
  have w5 := hk.w.2
  have t6 := hk.t.2
  have q8 := hk.q.2
  have k4 := hk.k.2
  have g60 := hk.g.2
  have n0 : upd f (6) v 0 = f 0 := pk_un (by omega)
  have n1 : upd f (6) v 1 = f 1 := pk_un (by omega)
  have n2 : upd f (6) v 2 = f 2 := pk_un (by omega)
  have n3 : upd f (6) v 3 = f 3 := pk_un (by omega)
  have n10 : upd f (6) v 10 = f 10 := pk_un (by omega)
  obtain ⟨⟨s0, s1, s2, s3, s4, s5, s6, s7, s8, s9, s10⟩, r, t, q, k, l1, nx, l2, l3, l4⟩ := hc
  have soE : soF (upd f (6) v) = soF f := by
    unfold soF
    rw [tN, n1]
    exact orI_cong fun i hi => by
      have hi2 : i < tN f := hi
      rw [pk_un (show 54 + 3 * i + 2 ≠ 6 by omega)]
  refine ⟨⟨by rw [hs _ _ (by omega) (by omega) (by omega), pk_un (by omega)]; exact s0, by rw [hs _ _ (by omega) (by omega) (by omega), pk_un (by omega)]; exact s1, by rw [hs _ _ (by omega) (by omega) (by omega), pk_un (by omega)]; exact s2, by rw [hs _ _ (by omega) (by omega) (by omega), pk_un (by omega)]; exact s3, by rw [hs _ _ (by omega) (by omega) (by omega), pk_un (by omega)]; exact s4, by rw [hs _ _ (by omega) (by omega) (by omega), s5, soE], by rw [hs _ _ (by omega) (by omega) (by omega), pk_un (by omega)]; exact s6, by rw [hs _ _ (by omega) (by omega) (by omega), pk_un (by omega)]; exact s7, by rw [hs _ _ (by omega) (by omega) (by omega), pk_un (by omega)]; exact s8, by rw [pk_us]; exact hv, by rw [hs _ _ (by omega) (by omega) (by omega), pk_un (by omega)]; exact s10⟩, fun i hi => ?_, fun i hi => ?_, fun i hi => ?_, fun i hi => ?_, ?_, nx, l2, ?_, fun i hi => ?_⟩
  · rw [wN, n0] at hi
    have hi2 : i < wN f := hi
    obtain ⟨r0, r1, r2, r3, r4, r5⟩ := r i hi
    exact ⟨by rw [hs _ _ (by omega) (by omega) (by omega), pk_un (show 29 + 5 * i ≠ 6 by omega)]; exact r0, by rw [hs _ _ (by omega) (by omega) (by omega), pk_un (show 29 + 5 * i + 1 ≠ 6 by omega)]; exact r1, by rw [hs _ _ (by omega) (by omega) (by omega), pk_un (show 29 + 5 * i + 2 ≠ 6 by omega)]; exact r2, by rw [hs _ _ (by omega) (by omega) (by omega), pk_un (show 29 + 5 * i + 3 ≠ 6 by omega)]; exact r3, by rw [hs _ _ (by omega) (by omega) (by omega), pk_un (show 29 + 5 * i + 4 ≠ 6 by omega)]; exact r4, by rw [hs _ _ (by omega) (by omega) (by omega), pk_un (show 24 + i ≠ 6 by omega)]; exact r5⟩
  · rw [tN, n1] at hi
    have hi2 : i < tN f := hi
    rw [hs _ _ (by omega) (by omega) (by omega), hs _ _ (by omega) (by omega) (by omega), pk_un (show 54 + 3 * i ≠ 6 by omega), pk_un (show 54 + 3 * i + 1 ≠ 6 by omega)]
    exact t i hi
  · rw [qN, n2] at hi
    have hi2 : i < qN f := hi
    rw [hs _ _ (by omega) (by omega) (by omega), pk_un (show 12 + i ≠ 6 by omega)]; exact q i hi
  · rw [kN, n3] at hi
    have hi2 : i < kN f := hi
    rw [hs _ _ (by omega) (by omega) (by omega), pk_un (show 20 + i ≠ 6 by omega)]; exact k i hi
  · rw [hs _ _ (by omega) (by omega) (by omega), n10]; exact l1
  · rw [hs _ _ (by omega) (by omega) (by omega)]; exact l3
  · rw [gN, n10] at hi
    have hi2 : i < gN f := hi
    rw [hL]
    have := l4 i hi
    unfold lgR at this ⊢
    rw [pk_un (show 72 + 5 * i ≠ 6 by omega), pk_un (show 72 + 5 * i + 1 ≠ 6 by omega), pk_un (show 72 + 5 * i + 2 ≠ 6 by omega), pk_un (show 72 + 5 * i + 3 ≠ 6 by omega), pk_un (show 72 + 5 * i + 4 ≠ 6 by omega)]
    exact this
theorem ok_seed {f : zRow} {v : Int32} (hk : okF f) : okF (upd f (11) v) := by
  have w5 := hk.w.2
  have t6 := hk.t.2
  have q8 := hk.q.2
  have k4 := hk.k.2
  have n0 : upd f (11) v 0 = f 0 := pk_un (by omega)
  have n1 : upd f (11) v 1 = f 1 := pk_un (by omega)
  have n2 : upd f (11) v 2 = f 2 := pk_un (by omega)
  have n3 : upd f (11) v 3 = f 3 := pk_un (by omega)
  obtain ⟨⟨a0, a1, a2, a3, a4, a5, a6, a7, a8, a9, a10⟩, b, c, d, e⟩ := hk
  refine ⟨⟨by rw [pk_un (by omega)]; exact a0, by rw [pk_un (by omega)]; exact a1, by rw [pk_un (by omega)]; exact a2, by rw [pk_un (by omega)]; exact a3, by rw [pk_un (by omega)]; exact a4, by rw [pk_un (by omega)]; exact a5, by rw [pk_un (by omega)]; exact a6, by rw [pk_un (by omega)]; exact a7, by rw [pk_un (by omega)]; exact a8, by rw [pk_un (by omega)]; exact a9, by rw [pk_un (by omega)]; exact a10⟩, fun i hi => ?_, fun t ht => ?_, fun q hq => ?_, fun k hk => ?_⟩
  · rw [wN, n0] at hi
    have hi2 : i < wN f := hi
    obtain ⟨b1, b2, b3, b4, b5, b6, b7, b8, b9, b10⟩ := b i hi
    have l5 := b5.le (by decide)
    have l7 := b7.le (by decide)
    unfold okW
    rw [wN, n0, pk_un (show 29 + 5 * i ≠ 11 by omega), pk_un (show 29 + 5 * i + 1 ≠ 11 by omega), pk_un (show 29 + 5 * i + 2 ≠ 11 by omega), pk_un (show 29 + 5 * i + 3 ≠ 11 by omega), pk_un (show 29 + 5 * i + 4 ≠ 11 by omega), pk_un (show 24 + i ≠ 11 by omega), pk_un (show 24 + tn (f (29 + 5 * i + 4)) ≠ 11 by omega), pk_un (show 29 + 5 * tn (f (24 + i)) + 4 ≠ 11 by omega)]
    exact ⟨b1, b2, b3, b4, b5, b6, b7, b8, b9, b10⟩
  · rw [tN, n1] at ht
    have ht2 : t < tN f := ht
    have c1 := c t ht
    unfold okT at c1 ⊢
    rw [pk_un (show 54 + 3 * t ≠ 11 by omega), pk_un (show 54 + 3 * t + 1 ≠ 11 by omega), pk_un (show 54 + 3 * t + 2 ≠ 11 by omega)]
    exact c1
  · rw [qN, n2] at hq
    have hq2 : q < qN f := hq
    rw [tN, n1]
    rw [pk_un (show 12 + q ≠ 11 by omega)]; exact d q hq
  · rw [kN, n3] at hk
    have hk2 : k < kN f := hk
    rw [pk_un (show 20 + k ≠ 11 by omega)]; exact e k hk
theorem cr_seed {M M1 : zM} {b : Nat} {f : zRow} {v : Int32} (hk : okF f) (hc : cR M b f) (hs : ∀ o j, b ≤ o → o < b + 14 → ¬ (o = b ∧ j = 15) → M1.1 o j = M.1 o j) (hL : ∀ j, M1.2 (b + 9) j = M.2 (b + 9) j) (hv : M1.1 (b) (15) = v) : cR M1 b (upd f (11) v) := by
  have w5 := hk.w.2
  have t6 := hk.t.2
  have q8 := hk.q.2
  have k4 := hk.k.2
  have g60 := hk.g.2
  have n0 : upd f (11) v 0 = f 0 := pk_un (by omega)
  have n1 : upd f (11) v 1 = f 1 := pk_un (by omega)
  have n2 : upd f (11) v 2 = f 2 := pk_un (by omega)
  have n3 : upd f (11) v 3 = f 3 := pk_un (by omega)
  have n10 : upd f (11) v 10 = f 10 := pk_un (by omega)
  obtain ⟨⟨s0, s1, s2, s3, s4, s5, s6, s7, s8, s9, s10⟩, r, t, q, k, l1, nx, l2, l3, l4⟩ := hc
  have soE : soF (upd f (11) v) = soF f := by
    unfold soF
    rw [tN, n1]
    exact orI_cong fun i hi => by
      have hi2 : i < tN f := hi
      rw [pk_un (show 54 + 3 * i + 2 ≠ 11 by omega)]
  refine ⟨⟨by rw [hs _ _ (by omega) (by omega) (by omega), pk_un (by omega)]; exact s0, by rw [hs _ _ (by omega) (by omega) (by omega), pk_un (by omega)]; exact s1, by rw [hs _ _ (by omega) (by omega) (by omega), pk_un (by omega)]; exact s2, by rw [hs _ _ (by omega) (by omega) (by omega), pk_un (by omega)]; exact s3, by rw [hs _ _ (by omega) (by omega) (by omega), pk_un (by omega)]; exact s4, by rw [hs _ _ (by omega) (by omega) (by omega), s5, soE], by rw [hs _ _ (by omega) (by omega) (by omega), pk_un (by omega)]; exact s6, by rw [hs _ _ (by omega) (by omega) (by omega), pk_un (by omega)]; exact s7, by rw [hs _ _ (by omega) (by omega) (by omega), pk_un (by omega)]; exact s8, by rw [hs _ _ (by omega) (by omega) (by omega), pk_un (by omega)]; exact s9, by rw [pk_us]; exact hv⟩, fun i hi => ?_, fun i hi => ?_, fun i hi => ?_, fun i hi => ?_, ?_, nx, l2, ?_, fun i hi => ?_⟩
  · rw [wN, n0] at hi
    have hi2 : i < wN f := hi
    obtain ⟨r0, r1, r2, r3, r4, r5⟩ := r i hi
    exact ⟨by rw [hs _ _ (by omega) (by omega) (by omega), pk_un (show 29 + 5 * i ≠ 11 by omega)]; exact r0, by rw [hs _ _ (by omega) (by omega) (by omega), pk_un (show 29 + 5 * i + 1 ≠ 11 by omega)]; exact r1, by rw [hs _ _ (by omega) (by omega) (by omega), pk_un (show 29 + 5 * i + 2 ≠ 11 by omega)]; exact r2, by rw [hs _ _ (by omega) (by omega) (by omega), pk_un (show 29 + 5 * i + 3 ≠ 11 by omega)]; exact r3, by rw [hs _ _ (by omega) (by omega) (by omega), pk_un (show 29 + 5 * i + 4 ≠ 11 by omega)]; exact r4, by rw [hs _ _ (by omega) (by omega) (by omega), pk_un (show 24 + i ≠ 11 by omega)]; exact r5⟩
  · rw [tN, n1] at hi
    have hi2 : i < tN f := hi
    rw [hs _ _ (by omega) (by omega) (by omega), hs _ _ (by omega) (by omega) (by omega), pk_un (show 54 + 3 * i ≠ 11 by omega), pk_un (show 54 + 3 * i + 1 ≠ 11 by omega)]
    exact t i hi
  · rw [qN, n2] at hi
    have hi2 : i < qN f := hi
    rw [hs _ _ (by omega) (by omega) (by omega), pk_un (show 12 + i ≠ 11 by omega)]; exact q i hi
  · rw [kN, n3] at hi
    have hi2 : i < kN f := hi
    rw [hs _ _ (by omega) (by omega) (by omega), pk_un (show 20 + i ≠ 11 by omega)]; exact k i hi
  · rw [hs _ _ (by omega) (by omega) (by omega), n10]; exact l1
  · rw [hs _ _ (by omega) (by omega) (by omega)]; exact l3
  · rw [gN, n10] at hi
    have hi2 : i < gN f := hi
    rw [hL]
    have := l4 i hi
    unfold lgR at this ⊢
    rw [pk_un (show 72 + 5 * i ≠ 11 by omega), pk_un (show 72 + 5 * i + 1 ≠ 11 by omega), pk_un (show 72 + 5 * i + 2 ≠ 11 by omega), pk_un (show 72 + 5 * i + 3 ≠ 11 by omega), pk_un (show 72 + 5 * i + 4 ≠ 11 by omega)]
    exact this
theorem ok_drink {f : zRow} {v : Int32} {w : Nat} (hk : okF f) (hw : w < wN f) (hv : isN v 99) : okF (upd f (29 + 5 * w + 2) v) := by
  have w5 := hk.w.2
  have t6 := hk.t.2
  have q8 := hk.q.2
  have k4 := hk.k.2
  have n0 : upd f (29 + 5 * w + 2) v 0 = f 0 := pk_un (by omega)
  have n1 : upd f (29 + 5 * w + 2) v 1 = f 1 := pk_un (by omega)
  have n2 : upd f (29 + 5 * w + 2) v 2 = f 2 := pk_un (by omega)
  have n3 : upd f (29 + 5 * w + 2) v 3 = f 3 := pk_un (by omega)
  obtain ⟨⟨a0, a1, a2, a3, a4, a5, a6, a7, a8, a9, a10⟩, b, c, d, e⟩ := hk
  refine ⟨⟨by rw [pk_un (by omega)]; exact a0, by rw [pk_un (by omega)]; exact a1, by rw [pk_un (by omega)]; exact a2, by rw [pk_un (by omega)]; exact a3, by rw [pk_un (by omega)]; exact a4, by rw [pk_un (by omega)]; exact a5, by rw [pk_un (by omega)]; exact a6, by rw [pk_un (by omega)]; exact a7, by rw [pk_un (by omega)]; exact a8, by rw [pk_un (by omega)]; exact a9, by rw [pk_un (by omega)]; exact a10⟩, fun i hi => ?_, fun t ht => ?_, fun q hq => ?_, fun k hk => ?_⟩
  · rw [wN, n0] at hi
    have hi2 : i < wN f := hi
    obtain ⟨b1, b2, b3, b4, b5, b6, b7, b8, b9, b10⟩ := b i hi
    have l5 := b5.le (by decide)
    have l7 := b7.le (by decide)
    unfold okW
    rw [wN, n0, pk_un (show 29 + 5 * i ≠ 29 + 5 * w + 2 by omega), pk_un (show 29 + 5 * i + 1 ≠ 29 + 5 * w + 2 by omega), pk_un (show 29 + 5 * i + 3 ≠ 29 + 5 * w + 2 by omega), pk_un (show 29 + 5 * i + 4 ≠ 29 + 5 * w + 2 by omega), pk_un (show 24 + i ≠ 29 + 5 * w + 2 by omega), pk_un (show 24 + tn (f (29 + 5 * i + 4)) ≠ 29 + 5 * w + 2 by omega), pk_un (show 29 + 5 * tn (f (24 + i)) + 4 ≠ 29 + 5 * w + 2 by omega)]
    by_cases ew : i = w
    · subst ew; rw [pk_us]; exact ⟨b1, b2, hv, b4, b5, b6, b7, b8, b9, b10⟩
    · rw [pk_un (show 29 + 5 * i + 2 ≠ 29 + 5 * w + 2 by omega)]; exact ⟨b1, b2, b3, b4, b5, b6, b7, b8, b9, b10⟩
  · rw [tN, n1] at ht
    have ht2 : t < tN f := ht
    have c1 := c t ht
    unfold okT at c1 ⊢
    rw [pk_un (show 54 + 3 * t ≠ 29 + 5 * w + 2 by omega), pk_un (show 54 + 3 * t + 1 ≠ 29 + 5 * w + 2 by omega), pk_un (show 54 + 3 * t + 2 ≠ 29 + 5 * w + 2 by omega)]
    exact c1
  · rw [qN, n2] at hq
    have hq2 : q < qN f := hq
    rw [tN, n1]
    rw [pk_un (show 12 + q ≠ 29 + 5 * w + 2 by omega)]; exact d q hq
  · rw [kN, n3] at hk
    have hk2 : k < kN f := hk
    rw [pk_un (show 20 + k ≠ 29 + 5 * w + 2 by omega)]; exact e k hk
theorem cr_drink {M M1 : zM} {b : Nat} {f : zRow} {v : Int32} {w : Nat} (hk : okF f) (hw : w < wN f) (hc : cR M b f) (hs : ∀ o j, b ≤ o → o < b + 14 → ¬ (o = b + 4 ∧ j = w) → M1.1 o j = M.1 o j) (hL : ∀ j, M1.2 (b + 9) j = M.2 (b + 9) j) (hv : M1.1 (b + 4) (w) = v) : cR M1 b (upd f (29 + 5 * w + 2) v) := by
  have w5 := hk.w.2
  have t6 := hk.t.2
  have q8 := hk.q.2
  have k4 := hk.k.2
  have g60 := hk.g.2
  have n0 : upd f (29 + 5 * w + 2) v 0 = f 0 := pk_un (by omega)
  have n1 : upd f (29 + 5 * w + 2) v 1 = f 1 := pk_un (by omega)
  have n2 : upd f (29 + 5 * w + 2) v 2 = f 2 := pk_un (by omega)
  have n3 : upd f (29 + 5 * w + 2) v 3 = f 3 := pk_un (by omega)
  have n10 : upd f (29 + 5 * w + 2) v 10 = f 10 := pk_un (by omega)
  obtain ⟨⟨s0, s1, s2, s3, s4, s5, s6, s7, s8, s9, s10⟩, r, t, q, k, l1, nx, l2, l3, l4⟩ := hc
  have soE : soF (upd f (29 + 5 * w + 2) v) = soF f := by
    unfold soF
    rw [tN, n1]
    exact orI_cong fun i hi => by
      have hi2 : i < tN f := hi
      rw [pk_un (show 54 + 3 * i + 2 ≠ 29 + 5 * w + 2 by omega)]
  refine ⟨⟨by rw [hs _ _ (by omega) (by omega) (by omega), pk_un (by omega)]; exact s0, by rw [hs _ _ (by omega) (by omega) (by omega), pk_un (by omega)]; exact s1, by rw [hs _ _ (by omega) (by omega) (by omega), pk_un (by omega)]; exact s2, by rw [hs _ _ (by omega) (by omega) (by omega), pk_un (by omega)]; exact s3, by rw [hs _ _ (by omega) (by omega) (by omega), pk_un (by omega)]; exact s4, by rw [hs _ _ (by omega) (by omega) (by omega), s5, soE], by rw [hs _ _ (by omega) (by omega) (by omega), pk_un (by omega)]; exact s6, by rw [hs _ _ (by omega) (by omega) (by omega), pk_un (by omega)]; exact s7, by rw [hs _ _ (by omega) (by omega) (by omega), pk_un (by omega)]; exact s8, by rw [hs _ _ (by omega) (by omega) (by omega), pk_un (by omega)]; exact s9, by rw [hs _ _ (by omega) (by omega) (by omega), pk_un (by omega)]; exact s10⟩, fun i hi => ?_, fun i hi => ?_, fun i hi => ?_, fun i hi => ?_, ?_, nx, l2, ?_, fun i hi => ?_⟩
  · rw [wN, n0] at hi
    have hi2 : i < wN f := hi
    obtain ⟨r0, r1, r2, r3, r4, r5⟩ := r i hi
    refine ⟨by rw [hs _ _ (by omega) (by omega) (by omega), pk_un (show 29 + 5 * i ≠ 29 + 5 * w + 2 by omega)]; exact r0, by rw [hs _ _ (by omega) (by omega) (by omega), pk_un (show 29 + 5 * i + 1 ≠ 29 + 5 * w + 2 by omega)]; exact r1, ?_, by rw [hs _ _ (by omega) (by omega) (by omega), pk_un (show 29 + 5 * i + 3 ≠ 29 + 5 * w + 2 by omega)]; exact r3, by rw [hs _ _ (by omega) (by omega) (by omega), pk_un (show 29 + 5 * i + 4 ≠ 29 + 5 * w + 2 by omega)]; exact r4, by rw [hs _ _ (by omega) (by omega) (by omega), pk_un (show 24 + i ≠ 29 + 5 * w + 2 by omega)]; exact r5⟩
    by_cases ew : i = w
    · subst ew; rw [pk_us]; exact hv
    · rw [hs _ _ (by omega) (by omega) (by omega), pk_un (show 29 + 5 * i + 2 ≠ 29 + 5 * w + 2 by omega)]; exact r2
  · rw [tN, n1] at hi
    have hi2 : i < tN f := hi
    rw [hs _ _ (by omega) (by omega) (by omega), hs _ _ (by omega) (by omega) (by omega), pk_un (show 54 + 3 * i ≠ 29 + 5 * w + 2 by omega), pk_un (show 54 + 3 * i + 1 ≠ 29 + 5 * w + 2 by omega)]
    exact t i hi
  · rw [qN, n2] at hi
    have hi2 : i < qN f := hi
    rw [hs _ _ (by omega) (by omega) (by omega), pk_un (show 12 + i ≠ 29 + 5 * w + 2 by omega)]; exact q i hi
  · rw [kN, n3] at hi
    have hi2 : i < kN f := hi
    rw [hs _ _ (by omega) (by omega) (by omega), pk_un (show 20 + i ≠ 29 + 5 * w + 2 by omega)]; exact k i hi
  · rw [hs _ _ (by omega) (by omega) (by omega), n10]; exact l1
  · rw [hs _ _ (by omega) (by omega) (by omega)]; exact l3
  · rw [gN, n10] at hi
    have hi2 : i < gN f := hi
    rw [hL]
    have := l4 i hi
    unfold lgR at this ⊢
    rw [pk_un (show 72 + 5 * i ≠ 29 + 5 * w + 2 by omega), pk_un (show 72 + 5 * i + 1 ≠ 29 + 5 * w + 2 by omega), pk_un (show 72 + 5 * i + 2 ≠ 29 + 5 * w + 2 by omega), pk_un (show 72 + 5 * i + 3 ≠ 29 + 5 * w + 2 by omega), pk_un (show 72 + 5 * i + 4 ≠ 29 + 5 * w + 2 by omega)]
    exact this
theorem ok_shade {f : zRow} {v : Int32} {w : Nat} (hk : okF f) (hw : w < wN f) (hv : isN v 99) : okF (upd f (29 + 5 * w + 3) v) := by
  have w5 := hk.w.2
  have t6 := hk.t.2
  have q8 := hk.q.2
  have k4 := hk.k.2
  have n0 : upd f (29 + 5 * w + 3) v 0 = f 0 := pk_un (by omega)
  have n1 : upd f (29 + 5 * w + 3) v 1 = f 1 := pk_un (by omega)
  have n2 : upd f (29 + 5 * w + 3) v 2 = f 2 := pk_un (by omega)
  have n3 : upd f (29 + 5 * w + 3) v 3 = f 3 := pk_un (by omega)
  obtain ⟨⟨a0, a1, a2, a3, a4, a5, a6, a7, a8, a9, a10⟩, b, c, d, e⟩ := hk
  refine ⟨⟨by rw [pk_un (by omega)]; exact a0, by rw [pk_un (by omega)]; exact a1, by rw [pk_un (by omega)]; exact a2, by rw [pk_un (by omega)]; exact a3, by rw [pk_un (by omega)]; exact a4, by rw [pk_un (by omega)]; exact a5, by rw [pk_un (by omega)]; exact a6, by rw [pk_un (by omega)]; exact a7, by rw [pk_un (by omega)]; exact a8, by rw [pk_un (by omega)]; exact a9, by rw [pk_un (by omega)]; exact a10⟩, fun i hi => ?_, fun t ht => ?_, fun q hq => ?_, fun k hk => ?_⟩
  · rw [wN, n0] at hi
    have hi2 : i < wN f := hi
    obtain ⟨b1, b2, b3, b4, b5, b6, b7, b8, b9, b10⟩ := b i hi
    have l5 := b5.le (by decide)
    have l7 := b7.le (by decide)
    unfold okW
    rw [wN, n0, pk_un (show 29 + 5 * i ≠ 29 + 5 * w + 3 by omega), pk_un (show 29 + 5 * i + 1 ≠ 29 + 5 * w + 3 by omega), pk_un (show 29 + 5 * i + 2 ≠ 29 + 5 * w + 3 by omega), pk_un (show 29 + 5 * i + 4 ≠ 29 + 5 * w + 3 by omega), pk_un (show 24 + i ≠ 29 + 5 * w + 3 by omega), pk_un (show 24 + tn (f (29 + 5 * i + 4)) ≠ 29 + 5 * w + 3 by omega), pk_un (show 29 + 5 * tn (f (24 + i)) + 4 ≠ 29 + 5 * w + 3 by omega)]
    by_cases ew : i = w
    · subst ew; rw [pk_us]; exact ⟨b1, b2, b3, hv, b5, b6, b7, b8, b9, b10⟩
    · rw [pk_un (show 29 + 5 * i + 3 ≠ 29 + 5 * w + 3 by omega)]; exact ⟨b1, b2, b3, b4, b5, b6, b7, b8, b9, b10⟩
  · rw [tN, n1] at ht
    have ht2 : t < tN f := ht
    have c1 := c t ht
    unfold okT at c1 ⊢
    rw [pk_un (show 54 + 3 * t ≠ 29 + 5 * w + 3 by omega), pk_un (show 54 + 3 * t + 1 ≠ 29 + 5 * w + 3 by omega), pk_un (show 54 + 3 * t + 2 ≠ 29 + 5 * w + 3 by omega)]
    exact c1
  · rw [qN, n2] at hq
    have hq2 : q < qN f := hq
    rw [tN, n1]
    rw [pk_un (show 12 + q ≠ 29 + 5 * w + 3 by omega)]; exact d q hq
  · rw [kN, n3] at hk
    have hk2 : k < kN f := hk
    rw [pk_un (show 20 + k ≠ 29 + 5 * w + 3 by omega)]; exact e k hk
theorem cr_shade {M M1 : zM} {b : Nat} {f : zRow} {v : Int32} {w : Nat} (hk : okF f) (hw : w < wN f) (hc : cR M b f) (hs : ∀ o j, b ≤ o → o < b + 14 → ¬ (o = b + 5 ∧ j = w) → M1.1 o j = M.1 o j) (hL : ∀ j, M1.2 (b + 9) j = M.2 (b + 9) j) (hv : M1.1 (b + 5) (w) = v) : cR M1 b (upd f (29 + 5 * w + 3) v) := by
  have w5 := hk.w.2
  have t6 := hk.t.2
  have q8 := hk.q.2
  have k4 := hk.k.2
  have g60 := hk.g.2
  have n0 : upd f (29 + 5 * w + 3) v 0 = f 0 := pk_un (by omega)
  have n1 : upd f (29 + 5 * w + 3) v 1 = f 1 := pk_un (by omega)
  have n2 : upd f (29 + 5 * w + 3) v 2 = f 2 := pk_un (by omega)
  have n3 : upd f (29 + 5 * w + 3) v 3 = f 3 := pk_un (by omega)
  have n10 : upd f (29 + 5 * w + 3) v 10 = f 10 := pk_un (by omega)
  obtain ⟨⟨s0, s1, s2, s3, s4, s5, s6, s7, s8, s9, s10⟩, r, t, q, k, l1, nx, l2, l3, l4⟩ := hc
  have soE : soF (upd f (29 + 5 * w + 3) v) = soF f := by
    unfold soF
    rw [tN, n1]
    exact orI_cong fun i hi => by
      have hi2 : i < tN f := hi
      rw [pk_un (show 54 + 3 * i + 2 ≠ 29 + 5 * w + 3 by omega)]
  refine ⟨⟨by rw [hs _ _ (by omega) (by omega) (by omega), pk_un (by omega)]; exact s0, by rw [hs _ _ (by omega) (by omega) (by omega), pk_un (by omega)]; exact s1, by rw [hs _ _ (by omega) (by omega) (by omega), pk_un (by omega)]; exact s2, by rw [hs _ _ (by omega) (by omega) (by omega), pk_un (by omega)]; exact s3, by rw [hs _ _ (by omega) (by omega) (by omega), pk_un (by omega)]; exact s4, by rw [hs _ _ (by omega) (by omega) (by omega), s5, soE], by rw [hs _ _ (by omega) (by omega) (by omega), pk_un (by omega)]; exact s6, by rw [hs _ _ (by omega) (by omega) (by omega), pk_un (by omega)]; exact s7, by rw [hs _ _ (by omega) (by omega) (by omega), pk_un (by omega)]; exact s8, by rw [hs _ _ (by omega) (by omega) (by omega), pk_un (by omega)]; exact s9, by rw [hs _ _ (by omega) (by omega) (by omega), pk_un (by omega)]; exact s10⟩, fun i hi => ?_, fun i hi => ?_, fun i hi => ?_, fun i hi => ?_, ?_, nx, l2, ?_, fun i hi => ?_⟩
  · rw [wN, n0] at hi
    have hi2 : i < wN f := hi
    obtain ⟨r0, r1, r2, r3, r4, r5⟩ := r i hi
    refine ⟨by rw [hs _ _ (by omega) (by omega) (by omega), pk_un (show 29 + 5 * i ≠ 29 + 5 * w + 3 by omega)]; exact r0, by rw [hs _ _ (by omega) (by omega) (by omega), pk_un (show 29 + 5 * i + 1 ≠ 29 + 5 * w + 3 by omega)]; exact r1, by rw [hs _ _ (by omega) (by omega) (by omega), pk_un (show 29 + 5 * i + 2 ≠ 29 + 5 * w + 3 by omega)]; exact r2, ?_, by rw [hs _ _ (by omega) (by omega) (by omega), pk_un (show 29 + 5 * i + 4 ≠ 29 + 5 * w + 3 by omega)]; exact r4, by rw [hs _ _ (by omega) (by omega) (by omega), pk_un (show 24 + i ≠ 29 + 5 * w + 3 by omega)]; exact r5⟩
    by_cases ew : i = w
    · subst ew; rw [pk_us]; exact hv
    · rw [hs _ _ (by omega) (by omega) (by omega), pk_un (show 29 + 5 * i + 3 ≠ 29 + 5 * w + 3 by omega)]; exact r3
  · rw [tN, n1] at hi
    have hi2 : i < tN f := hi
    rw [hs _ _ (by omega) (by omega) (by omega), hs _ _ (by omega) (by omega) (by omega), pk_un (show 54 + 3 * i ≠ 29 + 5 * w + 3 by omega), pk_un (show 54 + 3 * i + 1 ≠ 29 + 5 * w + 3 by omega)]
    exact t i hi
  · rw [qN, n2] at hi
    have hi2 : i < qN f := hi
    rw [hs _ _ (by omega) (by omega) (by omega), pk_un (show 12 + i ≠ 29 + 5 * w + 3 by omega)]; exact q i hi
  · rw [kN, n3] at hi
    have hi2 : i < kN f := hi
    rw [hs _ _ (by omega) (by omega) (by omega), pk_un (show 20 + i ≠ 29 + 5 * w + 3 by omega)]; exact k i hi
  · rw [hs _ _ (by omega) (by omega) (by omega), n10]; exact l1
  · rw [hs _ _ (by omega) (by omega) (by omega)]; exact l3
  · rw [gN, n10] at hi
    have hi2 : i < gN f := hi
    rw [hL]
    have := l4 i hi
    unfold lgR at this ⊢
    rw [pk_un (show 72 + 5 * i ≠ 29 + 5 * w + 3 by omega), pk_un (show 72 + 5 * i + 1 ≠ 29 + 5 * w + 3 by omega), pk_un (show 72 + 5 * i + 2 ≠ 29 + 5 * w + 3 by omega), pk_un (show 72 + 5 * i + 3 ≠ 29 + 5 * w + 3 by omega), pk_un (show 72 + 5 * i + 4 ≠ 29 + 5 * w + 3 by omega)]
    exact this
theorem ok_asks {f : zRow} {v : Int32} {w : Nat} (hk : okF f) (hw : w < qN f) (hv : isN v (2 ^ tN f - 1)) : okF (upd f (12 + w) v) := by
  have w5 := hk.w.2
  have t6 := hk.t.2
  have q8 := hk.q.2
  have k4 := hk.k.2
  have n0 : upd f (12 + w) v 0 = f 0 := pk_un (by omega)
  have n1 : upd f (12 + w) v 1 = f 1 := pk_un (by omega)
  have n2 : upd f (12 + w) v 2 = f 2 := pk_un (by omega)
  have n3 : upd f (12 + w) v 3 = f 3 := pk_un (by omega)
  obtain ⟨⟨a0, a1, a2, a3, a4, a5, a6, a7, a8, a9, a10⟩, b, c, d, e⟩ := hk
  refine ⟨⟨by rw [pk_un (by omega)]; exact a0, by rw [pk_un (by omega)]; exact a1, by rw [pk_un (by omega)]; exact a2, by rw [pk_un (by omega)]; exact a3, by rw [pk_un (by omega)]; exact a4, by rw [pk_un (by omega)]; exact a5, by rw [pk_un (by omega)]; exact a6, by rw [pk_un (by omega)]; exact a7, by rw [pk_un (by omega)]; exact a8, by rw [pk_un (by omega)]; exact a9, by rw [pk_un (by omega)]; exact a10⟩, fun i hi => ?_, fun t ht => ?_, fun q hq => ?_, fun k hk => ?_⟩
  · rw [wN, n0] at hi
    have hi2 : i < wN f := hi
    obtain ⟨b1, b2, b3, b4, b5, b6, b7, b8, b9, b10⟩ := b i hi
    have l5 := b5.le (by decide)
    have l7 := b7.le (by decide)
    unfold okW
    rw [wN, n0, pk_un (show 29 + 5 * i ≠ 12 + w by omega), pk_un (show 29 + 5 * i + 1 ≠ 12 + w by omega), pk_un (show 29 + 5 * i + 2 ≠ 12 + w by omega), pk_un (show 29 + 5 * i + 3 ≠ 12 + w by omega), pk_un (show 29 + 5 * i + 4 ≠ 12 + w by omega), pk_un (show 24 + i ≠ 12 + w by omega), pk_un (show 24 + tn (f (29 + 5 * i + 4)) ≠ 12 + w by omega), pk_un (show 29 + 5 * tn (f (24 + i)) + 4 ≠ 12 + w by omega)]
    exact ⟨b1, b2, b3, b4, b5, b6, b7, b8, b9, b10⟩
  · rw [tN, n1] at ht
    have ht2 : t < tN f := ht
    have c1 := c t ht
    unfold okT at c1 ⊢
    rw [pk_un (show 54 + 3 * t ≠ 12 + w by omega), pk_un (show 54 + 3 * t + 1 ≠ 12 + w by omega), pk_un (show 54 + 3 * t + 2 ≠ 12 + w by omega)]
    exact c1
  · rw [qN, n2] at hq
    have hq2 : q < qN f := hq
    rw [tN, n1]
    by_cases ew : q = w
    · subst ew; rw [pk_us]; exact hv
    · rw [pk_un (show 12 + q ≠ 12 + w by omega)]; exact d q hq
  · rw [kN, n3] at hk
    have hk2 : k < kN f := hk
    rw [pk_un (show 20 + k ≠ 12 + w by omega)]; exact e k hk
theorem cr_asks {M M1 : zM} {b : Nat} {f : zRow} {v : Int32} {w : Nat} (hk : okF f) (hw : w < qN f) (hc : cR M b f) (hs : ∀ o j, b ≤ o → o < b + 14 → ¬ (o = b + 12 ∧ j = w) → M1.1 o j = M.1 o j) (hL : ∀ j, M1.2 (b + 9) j = M.2 (b + 9) j) (hv : M1.1 (b + 12) (w) = v) : cR M1 b (upd f (12 + w) v) := by
  have w5 := hk.w.2
  have t6 := hk.t.2
  have q8 := hk.q.2
  have k4 := hk.k.2
  have g60 := hk.g.2
  have n0 : upd f (12 + w) v 0 = f 0 := pk_un (by omega)
  have n1 : upd f (12 + w) v 1 = f 1 := pk_un (by omega)
  have n2 : upd f (12 + w) v 2 = f 2 := pk_un (by omega)
  have n3 : upd f (12 + w) v 3 = f 3 := pk_un (by omega)
  have n10 : upd f (12 + w) v 10 = f 10 := pk_un (by omega)
  obtain ⟨⟨s0, s1, s2, s3, s4, s5, s6, s7, s8, s9, s10⟩, r, t, q, k, l1, nx, l2, l3, l4⟩ := hc
  have soE : soF (upd f (12 + w) v) = soF f := by
    unfold soF
    rw [tN, n1]
    exact orI_cong fun i hi => by
      have hi2 : i < tN f := hi
      rw [pk_un (show 54 + 3 * i + 2 ≠ 12 + w by omega)]
  refine ⟨⟨by rw [hs _ _ (by omega) (by omega) (by omega), pk_un (by omega)]; exact s0, by rw [hs _ _ (by omega) (by omega) (by omega), pk_un (by omega)]; exact s1, by rw [hs _ _ (by omega) (by omega) (by omega), pk_un (by omega)]; exact s2, by rw [hs _ _ (by omega) (by omega) (by omega), pk_un (by omega)]; exact s3, by rw [hs _ _ (by omega) (by omega) (by omega), pk_un (by omega)]; exact s4, by rw [hs _ _ (by omega) (by omega) (by omega), s5, soE], by rw [hs _ _ (by omega) (by omega) (by omega), pk_un (by omega)]; exact s6, by rw [hs _ _ (by omega) (by omega) (by omega), pk_un (by omega)]; exact s7, by rw [hs _ _ (by omega) (by omega) (by omega), pk_un (by omega)]; exact s8, by rw [hs _ _ (by omega) (by omega) (by omega), pk_un (by omega)]; exact s9, by rw [hs _ _ (by omega) (by omega) (by omega), pk_un (by omega)]; exact s10⟩, fun i hi => ?_, fun i hi => ?_, fun i hi => ?_, fun i hi => ?_, ?_, nx, l2, ?_, fun i hi => ?_⟩
  · rw [wN, n0] at hi
    have hi2 : i < wN f := hi
    obtain ⟨r0, r1, r2, r3, r4, r5⟩ := r i hi
    exact ⟨by rw [hs _ _ (by omega) (by omega) (by omega), pk_un (show 29 + 5 * i ≠ 12 + w by omega)]; exact r0, by rw [hs _ _ (by omega) (by omega) (by omega), pk_un (show 29 + 5 * i + 1 ≠ 12 + w by omega)]; exact r1, by rw [hs _ _ (by omega) (by omega) (by omega), pk_un (show 29 + 5 * i + 2 ≠ 12 + w by omega)]; exact r2, by rw [hs _ _ (by omega) (by omega) (by omega), pk_un (show 29 + 5 * i + 3 ≠ 12 + w by omega)]; exact r3, by rw [hs _ _ (by omega) (by omega) (by omega), pk_un (show 29 + 5 * i + 4 ≠ 12 + w by omega)]; exact r4, by rw [hs _ _ (by omega) (by omega) (by omega), pk_un (show 24 + i ≠ 12 + w by omega)]; exact r5⟩
  · rw [tN, n1] at hi
    have hi2 : i < tN f := hi
    rw [hs _ _ (by omega) (by omega) (by omega), hs _ _ (by omega) (by omega) (by omega), pk_un (show 54 + 3 * i ≠ 12 + w by omega), pk_un (show 54 + 3 * i + 1 ≠ 12 + w by omega)]
    exact t i hi
  · rw [qN, n2] at hi
    have hi2 : i < qN f := hi
    by_cases ew : i = w
    · subst ew; rw [pk_us]; exact hv
    · rw [hs _ _ (by omega) (by omega) (by omega), pk_un (show 12 + i ≠ 12 + w by omega)]; exact q i hi
  · rw [kN, n3] at hi
    have hi2 : i < kN f := hi
    rw [hs _ _ (by omega) (by omega) (by omega), pk_un (show 20 + i ≠ 12 + w by omega)]; exact k i hi
  · rw [hs _ _ (by omega) (by omega) (by omega), n10]; exact l1
  · rw [hs _ _ (by omega) (by omega) (by omega)]; exact l3
  · rw [gN, n10] at hi
    have hi2 : i < gN f := hi
    rw [hL]
    have := l4 i hi
    unfold lgR at this ⊢
    rw [pk_un (show 72 + 5 * i ≠ 12 + w by omega), pk_un (show 72 + 5 * i + 1 ≠ 12 + w by omega), pk_un (show 72 + 5 * i + 2 ≠ 12 + w by omega), pk_un (show 72 + 5 * i + 3 ≠ 12 + w by omega), pk_un (show 72 + 5 * i + 4 ≠ 12 + w by omega)]
    exact this
theorem ok_so {f : zRow} {v : Int32} {w : Nat} (hk : okF f) (hw : w < tN f) (hv : isN v 1) : okF (upd f (54 + 3 * w + 2) v) := by
  have w5 := hk.w.2
  have t6 := hk.t.2
  have q8 := hk.q.2
  have k4 := hk.k.2
  have n0 : upd f (54 + 3 * w + 2) v 0 = f 0 := pk_un (by omega)
  have n1 : upd f (54 + 3 * w + 2) v 1 = f 1 := pk_un (by omega)
  have n2 : upd f (54 + 3 * w + 2) v 2 = f 2 := pk_un (by omega)
  have n3 : upd f (54 + 3 * w + 2) v 3 = f 3 := pk_un (by omega)
  obtain ⟨⟨a0, a1, a2, a3, a4, a5, a6, a7, a8, a9, a10⟩, b, c, d, e⟩ := hk
  refine ⟨⟨by rw [pk_un (by omega)]; exact a0, by rw [pk_un (by omega)]; exact a1, by rw [pk_un (by omega)]; exact a2, by rw [pk_un (by omega)]; exact a3, by rw [pk_un (by omega)]; exact a4, by rw [pk_un (by omega)]; exact a5, by rw [pk_un (by omega)]; exact a6, by rw [pk_un (by omega)]; exact a7, by rw [pk_un (by omega)]; exact a8, by rw [pk_un (by omega)]; exact a9, by rw [pk_un (by omega)]; exact a10⟩, fun i hi => ?_, fun t ht => ?_, fun q hq => ?_, fun k hk => ?_⟩
  · rw [wN, n0] at hi
    have hi2 : i < wN f := hi
    obtain ⟨b1, b2, b3, b4, b5, b6, b7, b8, b9, b10⟩ := b i hi
    have l5 := b5.le (by decide)
    have l7 := b7.le (by decide)
    unfold okW
    rw [wN, n0, pk_un (show 29 + 5 * i ≠ 54 + 3 * w + 2 by omega), pk_un (show 29 + 5 * i + 1 ≠ 54 + 3 * w + 2 by omega), pk_un (show 29 + 5 * i + 2 ≠ 54 + 3 * w + 2 by omega), pk_un (show 29 + 5 * i + 3 ≠ 54 + 3 * w + 2 by omega), pk_un (show 29 + 5 * i + 4 ≠ 54 + 3 * w + 2 by omega), pk_un (show 24 + i ≠ 54 + 3 * w + 2 by omega), pk_un (show 24 + tn (f (29 + 5 * i + 4)) ≠ 54 + 3 * w + 2 by omega), pk_un (show 29 + 5 * tn (f (24 + i)) + 4 ≠ 54 + 3 * w + 2 by omega)]
    exact ⟨b1, b2, b3, b4, b5, b6, b7, b8, b9, b10⟩
  · rw [tN, n1] at ht
    have ht2 : t < tN f := ht
    have c1 := c t ht
    unfold okT at c1 ⊢
    rw [pk_un (show 54 + 3 * t ≠ 54 + 3 * w + 2 by omega), pk_un (show 54 + 3 * t + 1 ≠ 54 + 3 * w + 2 by omega)]
    by_cases ew : t = w
    · subst ew; rw [pk_us]; exact ⟨c1.1, c1.2.1, c1.2.2.1, hv⟩
    · rw [pk_un (show 54 + 3 * t + 2 ≠ 54 + 3 * w + 2 by omega)]; exact c1
  · rw [qN, n2] at hq
    have hq2 : q < qN f := hq
    rw [tN, n1]
    rw [pk_un (show 12 + q ≠ 54 + 3 * w + 2 by omega)]; exact d q hq
  · rw [kN, n3] at hk
    have hk2 : k < kN f := hk
    rw [pk_un (show 20 + k ≠ 54 + 3 * w + 2 by omega)]; exact e k hk
theorem cr_so {M M1 : zM} {b : Nat} {f : zRow} {v : Int32} {w : Nat} (hk : okF f) (hw : w < tN f) (hc : cR M b f) (hs : ∀ o j, b ≤ o → o < b + 14 → ¬ (o = b ∧ j = 10) → M1.1 o j = M.1 o j) (hL : ∀ j, M1.2 (b + 9) j = M.2 (b + 9) j) (hv : M1.1 (b) (10) = soF (upd f (54 + 3 * w + 2) v)) : cR M1 b (upd f (54 + 3 * w + 2) v) := by
  have w5 := hk.w.2
  have t6 := hk.t.2
  have q8 := hk.q.2
  have k4 := hk.k.2
  have g60 := hk.g.2
  have n0 : upd f (54 + 3 * w + 2) v 0 = f 0 := pk_un (by omega)
  have n1 : upd f (54 + 3 * w + 2) v 1 = f 1 := pk_un (by omega)
  have n2 : upd f (54 + 3 * w + 2) v 2 = f 2 := pk_un (by omega)
  have n3 : upd f (54 + 3 * w + 2) v 3 = f 3 := pk_un (by omega)
  have n10 : upd f (54 + 3 * w + 2) v 10 = f 10 := pk_un (by omega)
  obtain ⟨⟨s0, s1, s2, s3, s4, s5, s6, s7, s8, s9, s10⟩, r, t, q, k, l1, nx, l2, l3, l4⟩ := hc
  refine ⟨⟨by rw [hs _ _ (by omega) (by omega) (by omega), pk_un (by omega)]; exact s0, by rw [hs _ _ (by omega) (by omega) (by omega), pk_un (by omega)]; exact s1, by rw [hs _ _ (by omega) (by omega) (by omega), pk_un (by omega)]; exact s2, by rw [hs _ _ (by omega) (by omega) (by omega), pk_un (by omega)]; exact s3, by rw [hs _ _ (by omega) (by omega) (by omega), pk_un (by omega)]; exact s4, hv, by rw [hs _ _ (by omega) (by omega) (by omega), pk_un (by omega)]; exact s6, by rw [hs _ _ (by omega) (by omega) (by omega), pk_un (by omega)]; exact s7, by rw [hs _ _ (by omega) (by omega) (by omega), pk_un (by omega)]; exact s8, by rw [hs _ _ (by omega) (by omega) (by omega), pk_un (by omega)]; exact s9, by rw [hs _ _ (by omega) (by omega) (by omega), pk_un (by omega)]; exact s10⟩, fun i hi => ?_, fun i hi => ?_, fun i hi => ?_, fun i hi => ?_, ?_, nx, l2, ?_, fun i hi => ?_⟩
  · rw [wN, n0] at hi
    have hi2 : i < wN f := hi
    obtain ⟨r0, r1, r2, r3, r4, r5⟩ := r i hi
    exact ⟨by rw [hs _ _ (by omega) (by omega) (by omega), pk_un (show 29 + 5 * i ≠ 54 + 3 * w + 2 by omega)]; exact r0, by rw [hs _ _ (by omega) (by omega) (by omega), pk_un (show 29 + 5 * i + 1 ≠ 54 + 3 * w + 2 by omega)]; exact r1, by rw [hs _ _ (by omega) (by omega) (by omega), pk_un (show 29 + 5 * i + 2 ≠ 54 + 3 * w + 2 by omega)]; exact r2, by rw [hs _ _ (by omega) (by omega) (by omega), pk_un (show 29 + 5 * i + 3 ≠ 54 + 3 * w + 2 by omega)]; exact r3, by rw [hs _ _ (by omega) (by omega) (by omega), pk_un (show 29 + 5 * i + 4 ≠ 54 + 3 * w + 2 by omega)]; exact r4, by rw [hs _ _ (by omega) (by omega) (by omega), pk_un (show 24 + i ≠ 54 + 3 * w + 2 by omega)]; exact r5⟩
  · rw [tN, n1] at hi
    have hi2 : i < tN f := hi
    rw [hs _ _ (by omega) (by omega) (by omega), hs _ _ (by omega) (by omega) (by omega), pk_un (show 54 + 3 * i ≠ 54 + 3 * w + 2 by omega), pk_un (show 54 + 3 * i + 1 ≠ 54 + 3 * w + 2 by omega)]
    exact t i hi
  · rw [qN, n2] at hi
    have hi2 : i < qN f := hi
    rw [hs _ _ (by omega) (by omega) (by omega), pk_un (show 12 + i ≠ 54 + 3 * w + 2 by omega)]; exact q i hi
  · rw [kN, n3] at hi
    have hi2 : i < kN f := hi
    rw [hs _ _ (by omega) (by omega) (by omega), pk_un (show 20 + i ≠ 54 + 3 * w + 2 by omega)]; exact k i hi
  · rw [hs _ _ (by omega) (by omega) (by omega), n10]; exact l1
  · rw [hs _ _ (by omega) (by omega) (by omega)]; exact l3
  · rw [gN, n10] at hi
    have hi2 : i < gN f := hi
    rw [hL]
    have := l4 i hi
    unfold lgR at this ⊢
    rw [pk_un (show 72 + 5 * i ≠ 54 + 3 * w + 2 by omega), pk_un (show 72 + 5 * i + 1 ≠ 54 + 3 * w + 2 by omega), pk_un (show 72 + 5 * i + 2 ≠ 54 + 3 * w + 2 by omega), pk_un (show 72 + 5 * i + 3 ≠ 54 + 3 * w + 2 by omega), pk_un (show 72 + 5 * i + 4 ≠ 54 + 3 * w + 2 by omega)]
    exact this
