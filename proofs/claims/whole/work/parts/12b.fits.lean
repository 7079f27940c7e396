/-! ===== what fits the rows: fits, sure, never ===== -/
section FITS
variable {E : zEv} {D : Nat} {px : String → zM → Prop} {M : zM} {K : zM → Prop} {f : zRow}
abbrev fitR (f : zRow) (b : Nat → Nat) (s r : Nat) : Prop := rzF f (b (3 * r)) s (b (3 * r + 1)) = nI (b (3 * r + 2))
abbrev fitP (f : zRow) (b : Nat → Nat) (R s : Nat) : Prop := ∀ r, r < R → fitR f b s r
theorem s_X10_fittingRow {post : Int64 → zM → Prop} {v : Nat} {c : Int32} (hk : okF f) (hv : v < 5) (hp : ∀ x, (∀ s, s < 64 → (btL x s = true ↔ s < 2 ^ tN f ∧ M.1 49 (5 * s + v) = c)) → post x M) : zCl E jX10_fittingRow D 0 [.ref 48, .int (nI (2 ^ tN f)), .int (nI v), .int c] M post px := by
  have t64 := two_t hk
  refine e_X10_fittingRow (zup_loop (fun i => ∀ x, (∀ s, s < 64 → (btL x s = true ↔ s < i ∧ M.1 49 (5 * s + v) = c)) → w_X10_fittingRow_6 E D post px (nI (2 ^ tN f)) (nI v) c x (nI i) M) (2 ^ tN f) (fun i hi ih x hx => ?_) (fun x hx => ?_) 0 (Nat.zero_le _) 0 (fun s hs => ⟨fun z => absurd ((btL_0 s).symm.trans z) (by decide), fun z => absurd z.1 (by omega)⟩))
  · have e5 : nI i * 5 + nI v = nI (5 * i + v) := by rw [show (5 : Int32) = nI 5 from rfl, pk_mul, nI_add, Nat.mul_comm]
    refine t_X10_fittingRow_6 (pk_le (2 ^ tN f) i (fun z => absurd z (by omega)) (fun _ => ?_))
    rw [e5, nI_clamp (n := 5 * i + v) (by omega)]
    refine pk_le 320 (5 * i + v) (fun z => absurd z (by omega)) (fun _ => ⟨pk_in (5 * i + v) _ (by omega), fun z => t_X10_fittingRow_50 ?_, fun z => t_X10_fittingRow_50 ?_⟩)
    · rw [nI_1]
      refine ih x (fun s hs => (hx s hs).trans ⟨fun y => ⟨by omega, y.2⟩, fun y => ⟨?_, y.2⟩⟩)
      by_cases e : s = i
      · rw [e] at y; exact absurd y.2 z
      · omega
    · rw [nI_1]
      refine ih _ (fun s hs => ?_)
      rw [btL_or, btL_bit (by omega) hs, Bool.or_eq_true, hx s hs]
      constructor
      · rintro (y | y)
        · exact ⟨by omega, y.2⟩
        · rw [of_decide_eq_true y]; exact ⟨by omega, z⟩
      · intro y
        by_cases e : s = i
        · exact Or.inr (decide_eq_true e)
        · exact Or.inl ⟨by omega, y.2⟩
  · exact t_X10_fittingRow_6 (pk_le (2 ^ tN f) (2 ^ tN f) (fun _ => hp x hx) (fun z => absurd z (by omega)))
theorem s_X10_fitting {post : Int64 → zM → Prop} {b : Nat → Nat} {R : Nat} (hr : cR M 61 f) (hk : okF f) (hL : lawR M 36 f) (hb : ∀ j, j < 400 → M.1 21 j = nI (b j)) (hR : 3 * R ≤ 45) (hlt : ∀ j, j < 400 → b j < 256) (hrow : ∀ r, r < R → b (3 * r) < qN f ∧ b (3 * r + 1) < wN f) (hp : ∀ x M', (∀ s, s < 64 → (btL x s = true ↔ s < 2 ^ tN f ∧ fitP f b R s)) → wl M' M → post x M') : zCl E jX10_fitting (D + 5) 0 [.ref 48, .ref 43, .ref 61, .ref 20, .int (nI R)] M post px := by
  have w5 := hk.w
  have q8 := hk.q
  have t6 := hk.t.2
  have t64 := two_t hk
  have eQ : ∀ M', wl M' M → M'.1 61 7 = nI (qN f) := fun M' w => (cR_wl zc61 w hk hr).1.2.2.1.trans q8.1
  have t21 : ∀ M', wl M' M → ∀ j, j < 400 → M'.1 21 j = nI (b j) := fun M' w j hj => by
    rw [w.1 21 (by decide) (by decide) (by decide) (by decide) (by decide) (by decide) (by decide)]; exact hb j hj
  have main : ∀ x, (∀ s, s < 64 → (btL x s = true ↔ s < 2 ^ tN f)) → w_X10_fitting_30 E (D + 4) post px (nI R) (nI (2 ^ tN f)) x 0 M := fun x hx => by
    refine zup_loop (fun q => ∀ x M', (∀ s, s < 64 → (btL x s = true ↔ s < 2 ^ tN f ∧ ∀ r, r < R → b (3 * r) < q → fitR f b s r)) → wl M' M → w_X10_fitting_30 E (D + 4) post px (nI R) (nI (2 ^ tN f)) x (nI q) M') (qN f) (fun q hq ih x M' hx w => ?_) (fun x M' hx w => ?_) 0 (Nat.zero_le _) x M (fun s hs => (hx s hs).trans ⟨fun y => ⟨y, fun r _ z => absurd z (by omega)⟩, fun y => y.1⟩) wl.refl
    · refine t_X10_fitting_30 (pk_le (qN f) q (fun z => absurd z (by omega)) (fun _ => ?_) (eQ M' w))
      refine zup_loop (fun r => ∀ x M2 y9, (∀ s, s < 64 → (btL x s = true ↔ s < 2 ^ tN f ∧ ∀ r', r' < R → (b (3 * r') < q ∨ (b (3 * r') = q ∧ r' < r)) → fitR f b s r')) → (¬ y9 = 0 → ∀ s v, s < 2 ^ tN f → v < wN f → M2.1 49 (5 * s + v) = rzF f q s v) → wl M2 M → w_X10_fitting_45 E (D + 4) post px (nI R) (nI (2 ^ tN f)) x (nI q) y9 (nI r) M2) R (fun r hr' ihr x M2 y9 hx h9 w2 => ?_) (fun x M2 y9 hx h9 w2 => ?_) 0 (Nat.zero_le _) x M' 0 (fun s hs => (hx s hs).trans ⟨fun y => ⟨y.1, fun r' h1 h2 => y.2 r' h1 (by omega)⟩, fun y => ⟨y.1, fun r' h1 h2 => y.2 r' h1 (Or.inl h2)⟩⟩) (fun z => absurd rfl z) w
      · have e0 := t21 M2 w2 (3 * r) (by omega)
        have l0 := hlt (3 * r) (by omega)
        refine t_X10_fitting_45 (pk_le R r (fun z => absurd z (by omega)) (fun _ => s_X9_told (p := 0) (by omega) ?_))
        rw [Nat.add_zero, e0]
        refine pk_eq (b (3 * r)) q (fun z => ?_) (fun z => t_X10_fitting_108 ?_)
        · have h83 : ∀ M3 y9', (∀ s v, s < 2 ^ tN f → v < wN f → M3.1 49 (5 * s + v) = rzF f q s v) → wl M3 M → w_X10_fitting_83 E (D + 4) post px (nI R) (nI (2 ^ tN f)) x (nI q) y9' (nI r) M3 := fun M3 y9' h3 w3 => by
            refine t_X10_fitting_83 (s_X9_told (p := 1) (by omega) (s_X9_told (p := 2) (by omega) ?_))
            rw [t21 M3 w3 (3 * r + 1) (by omega), t21 M3 w3 (3 * r + 2) (by omega)]
            have hv := (hrow r hr').2
            refine s_X10_fittingRow hk (by omega) (fun x9 hx9 => t_X10_fitting_108 ?_)
            rw [nI_1]
            refine ihr _ M3 y9' (fun s hs => ?_) (fun _ => h3) w3
            rw [btL_and, Bool.and_eq_true, hx s hs, hx9 s hs]
            constructor
            · rintro ⟨⟨a1, a2⟩, a3, a4⟩
              refine ⟨a1, fun r' h1 h2 => ?_⟩
              by_cases c : r' = r
              · rw [c]
                show rzF f (b (3 * r)) s (b (3 * r + 1)) = _
                rw [z, ← h3 s _ a1 hv]; exact a4
              · exact a2 r' h1 (by omega)
            · rintro ⟨a1, a2⟩
              refine ⟨⟨a1, fun r' h1 h2 => a2 r' h1 (by omega)⟩, a1, ?_⟩
              have : rzF f (b (3 * r)) s (b (3 * r + 1)) = nI (b (3 * r + 2)) := a2 r hr' (Or.inr ⟨z, by omega⟩)
              rw [z] at this
              rw [h3 s _ a1 hv]; exact this
          exact ⟨fun n9 => h83 M2 y9 (h9 n9) w2, fun z9 => s_X10_weigh (cR_wl zc61 w2 hk hr) hk (lawR_wl w2 hL) hq (fun M13 c1 c2 c3 c4 c5 c6 => h83 M13 1 c1 (c6.trans w2))⟩
        · rw [nI_1]
          refine ihr x M2 y9 (fun s hs => (hx s hs).trans ⟨fun y => ⟨y.1, fun r' h1 h2 => y.2 r' h1 ?_⟩, fun y => ⟨y.1, fun r' h1 h2 => y.2 r' h1 (by omega)⟩⟩) h9 w2
          by_cases c : r' = r
          · rw [c] at h2 ⊢; omega
          · omega
      · refine t_X10_fitting_45 (pk_le R R (fun _ => ?_) (fun z => absurd z (by omega)))
        rw [nI_1]
        exact ih x M2 (fun s hs => (hx s hs).trans ⟨fun y => ⟨y.1, fun r' h1 h2 => y.2 r' h1 (by omega)⟩, fun y => ⟨y.1, fun r' h1 h2 => y.2 r' h1 (by omega)⟩⟩) w2
    · exact t_X10_fitting_30 (pk_le (qN f) (qN f) (fun _ => hp x M' (fun s hs => (hx s hs).trans ⟨fun y => ⟨y.1, fun r h1 => y.2 r h1 (hrow r h1).1⟩, fun y => ⟨y.1, fun r h1 _ => y.2 r h1⟩⟩) w) (fun z => absurd z (by omega)) (eQ M' w))
  refine e_X10_fitting (s_worldCount zc61 hr hk (pk_lt (2 ^ tN f) 64 (fun z => t_X10_fitting_25 (main _ (fun s hs => ?_))) (fun z => t_X10_fitting_25 (main _ (fun s hs => ?_)))))
  · have t5 : tN f < 6 := Decidable.byContradiction (fun y => by
      have e : tN f = 6 := by omega
      rw [e] at z
      exact absurd z (by decide))
    rw [btL_all t5 hs]
    exact decide_eq_true_iff
  · rw [btL_m1 hs]
    exact ⟨fun _ => by omega, fun _ => rfl⟩
theorem s_X11_fittingWorlds {post : Int64 → zM → Prop} {n : Nat} (h : Rel M) (hf : M.1 1 = f) (hn : n ≤ 400) (t1 : M.1 20 1 = nI n) (h0 : ∀ x M5, rwOK n (qN f) (wN f) 255 (byF M) → (∀ s, s < 64 → (btL x s = true ↔ s < 2 ^ tN f ∧ fitP f (byF M) (n / 3) s)) → wl M5 (zup M 20 1 0) → cR M5 61 f → lawR M5 36 f → post x M5) (h1 : ¬ rwOK n (qN f) (wN f) 255 (byF M) → px "java/lang/IllegalArgumentException" (zup M 20 1 0)) : zCl E jX11_fittingWorlds (D + 6) 1 [.ref 19] M post px := by
  have q8 := h.ok.q
  have w5 := h.ok.w
  refine e_X11_fittingWorlds (e_X9_useUp (fun M1 e1 => ?_))
  have k21 : M1.1 21 = M.1 21 := by rw [e1, zup_o (by decide)]
  have kw : M1.1 62 6 = nI (wN (M.1 1)) := by rw [e1, zup_o (by decide)]; exact h.nW
  have kq : M1.1 61 7 = nI (qN (M.1 1)) := by rw [e1, zup_o (by decide)]; exact h.nQ
  have lw : lawR M1 36 (M.1 1) := lawR_same (b := 36) rfl (fun _ _ => rfl) (by rw [e1, zup_o (by decide)]) (fun i j h1 h2 h3 => by rw [e1, zup_o (by omega)]) (fun j hj => by rw [e1, zup_o (by decide)]) h.law
  have cr := now_20 h e1
  have cb := h.cb k21
  rw [t1, kw, kq]
  rw [hf] at q8 w5 lw cr ⊢
  have okf : okF f := hf ▸ h.ok
  refine s_X11_needRows (C := 255) cb hn (by omega) (by omega) (by decide) (fun hok => ?_) (fun hok => ?_)
  · rw [by_21 k21] at hok cb
    refine s_X10_fitting cr okf lw (fun j hj => (cb j hj).1) (by have := hok.2.1; omega) (fun j hj => (cb j hj).2) (fun r hr => ⟨(hok.2.2 r hr).1, (hok.2.2 r hr).2.1⟩) (fun x M5 hx w => ?_)
    exact h0 x M5 hok hx (e1 ▸ w) (cR_wl zc61 w okf cr) (lawR_wl w lw)
  · rw [by_21 k21] at hok
    rw [e1]
    exact h1 hok
theorem s_X12_isRows {post : Int32 → zM → Prop} {n : Nat} (hf : M.1 1 = f) (hk : okF f) (b : Nat → Nat) (hb : ∀ j, j < 400 → M.1 6 j = sb (b j) ∧ b j < 256) (hn : n ≤ 400) (h11 : M.1 0 11 = nI n) (hp : post (bI (rwOK n (qN f) (wN f) 255 b)) M) : zCi E jX12_isRows (D + 2) 0 [.ref 0] M post px := by
  have w5 := hk.w
  have q8 := hk.q
  have er : zrem (nI n) 3 = nI (n % 3) := pk_rem (d := 3) (by omega) (by decide) (by decide)
  refine e_X12_isRows ?_
  rw [h11, er]
  have bad : ∀ i, ¬ rwOK n (qN f) (wN f) 255 b → w_X12_isRows_26 E (D + 1) post px 0 i M := fun i hno => by
    have b95 : w_X12_isRows_78 E (D + 1) post px 0 M := t_X12_isRows_78 ⟨Or.inl rfl, by rw [bI_f hno] at hp; exact hp⟩
    exact t_X12_isRows_26 ⟨fun _ => b95, fun _ => ⟨fun _ => b95, fun z => absurd rfl z⟩⟩
  have loop : n % 3 = 0 → n ≤ 45 → w_X12_isRows_26 E (D + 1) post px 1 0 M := fun g1 g2 => by
    have key := zup_loop (fun i => (∀ r, r < i → b (3 * r) < qN f ∧ b (3 * r + 1) < wN f ∧ b (3 * r + 2) ≤ 255) → w_X12_isRows_26 E (D + 1) post px 1 (nI (3 * i)) M) (n / 3) (fun i hi ih hr => ?_) (fun hr => ?_) 0 (by omega) (fun r hr => absurd hr (by omega))
    · exact key
    · have no : ¬ (b (3 * i) < qN f ∧ b (3 * i + 1) < wN f ∧ b (3 * i + 2) ≤ 255) → w_X12_isRows_70 E (D + 1) post px (nI (3 * i)) M := fun hh => t_X12_isRows_70 (t_X12_isRows_71 (bad _ (fun q => hh (q.2.2 i hi))))
      have b0 := hb (3 * i) (by omega)
      have b1 := hb (3 * i + 1) (by omega)
      have b2 := hb (3 * i + 2) (by omega)
      refine t_X12_isRows_26 (pk_le n (3 * i) (fun z => absurd z (by omega)) (fun _ => z1B ?_) h11)
      rw [nI_clamp (n := 3 * i) (by omega), nI_1, nI_clamp (n := 3 * i + 1) (by omega), b0.1]
      refine ⟨pk_in _ _ (show 3 * i < 400 by omega), s_X12_noQuestion (n := qN f) (by rw [hf]; exact q8.1) (by omega) (fun z0 => z0B ⟨pk_in _ _ (show 3 * i + 1 < 400 by omega), ?_⟩) (fun z => z1A (no (fun q => z ((sb_zv b0.2 (by omega)).mpr q.1))))⟩
      rw [b1.1]
      refine s_X12_noWitness (n := wN f) (by rw [hf]; exact w5.1) (by omega) (fun z1 => z0B (t_X12_isRows_71 ?_)) (fun z => z1A (no (fun q => z ((sb_zv b1.2 (by omega)).mpr q.2.1))))
      rw [show nI (3 * i) + 3 = nI (3 * (i + 1)) from nI_add _ 3]
      refine ih (fun r hr' => ?_)
      by_cases c : r = i
      · rw [c]; exact ⟨(sb_zv b0.2 (by omega)).mp z0, (sb_zv b1.2 (by omega)).mp z1, by omega⟩
      · exact hr r (by omega)
    · refine t_X12_isRows_26 (pk_le n (3 * (n / 3)) (fun _ => t_X12_isRows_78 ⟨Or.inr rfl, ?_⟩) (fun z => absurd z (by omega)) h11)
      rw [bI_t ⟨g1, g2, hr⟩] at hp
      exact hp
  refine pk_eq (n % 3) 0 (fun z => ?_) (fun z => ?_) |> fun y => ⟨y.2, y.1⟩
  · exact pk_lt 45 n (fun z2 => t_X12_isRows_22 (t_X12_isRows_23 (bad _ (fun q => by have := q.2.1; omega)))) (fun z2 => t_X12_isRows_23 (loop z z2))
  · exact t_X12_isRows_22 (t_X12_isRows_23 (bad _ (fun q => z q.1)))
theorem sb_255 {b : Nat} (h : b < 256) : sb b &&& 255 = nI b := by
  have : ∀ j : Fin 256, sb j.val &&& 255 = nI j.val := by decide +kernel
  exact this ⟨b, h⟩
theorem s_X12_fitsRows {post : Int32 → zM → Prop} {n s : Nat} (hf : M.1 1 = f) (hk : okF f) (b : Nat → Nat) (hb : ∀ j, j < 400 → M.1 6 j = sb (b j) ∧ b j < 256) (h11 : M.1 0 11 = nI n) (hok : rwOK n (qN f) (wN f) 255 b) (hz : rzW M f) (hs : s < 2 ^ tN f) (hp : post (bI (fitP f b (n / 3) s)) M) : zCi E jX12_fitsRows (D + 1) 0 [.ref 0, .int (nI s)] M post px := by
  have w5 := hk.w
  have q8 := hk.q
  have t64 := two_t hk
  obtain ⟨g1, g2, g3⟩ := hok
  have h00 : bI (∀ r, r < 0 → fitR f b s r) = 1 := bI_t (fun r hr => absurd hr (by omega))
  have key := zup_loop (fun i => w_X12_fitsRows_4 E D post px (nI s) (bI (∀ r, r < i → fitR f b s r)) (nI (3 * i)) M) (n / 3) (fun i hi ih => ?_) ?_ 0 (by omega)
  · rw [h00] at key
    exact e_X12_fitsRows key
  · have nx : ∀ v, v = bI (∀ r, r < i + 1 → fitR f b s r) → w_X12_fitsRows_59 E D post px (nI s) (nI (3 * i)) v M := fun v hv => t_X12_fitsRows_59 (by
      rw [show nI (3 * i) + 3 = nI (3 * (i + 1)) from nI_add _ 3, hv]
      exact ih)
    obtain ⟨r0, r1, -⟩ := g3 i hi
    have b0 := hb (3 * i) (by omega)
    have b1 := hb (3 * i + 1) (by omega)
    have b2 := hb (3 * i + 2) (by omega)
    refine t_X12_fitsRows_4 (pk_le n (3 * i) (fun z => absurd z (by omega)) (fun _ => ⟨fun z => t_X12_fitsRows_58 (nx 0 (bI_f (fun y => bI_0.mp z (fun r hr => y r (by omega)))).symm), fun z => ?_⟩) h11)
    rw [nI_clamp (n := 3 * i) (by omega), nI_1, show nI (3 * i) + 2 = nI (3 * i + 2) from nI_add _ 2, nI_clamp (n := 3 * i + 1) (by omega), nI_clamp (n := 3 * i + 2) (by omega), b0.1, b1.1, sb_lo (by omega), sb_lo (by omega)]
    refine ⟨pk_in (3 * i) _ (by omega), pk_in (3 * i + 1) _ (by omega), s_X12_risenAt (by omega) ⟨pk_in _ _ (show rzI (b (3 * i)) s (b (3 * i + 1)) < 2560 by unfold rzI; omega), pk_in (3 * i + 2) _ (by omega), ?_⟩⟩
    rw [nI_clamp (n := rzI (b (3 * i)) s (b (3 * i + 1))) (by unfold rzI; omega), hz _ _ _ r0 hs r1, b2.1, sb_255 b2.2]
    refine ⟨fun y => t_X12_fitsRows_58 (nx 0 (bI_f (fun x => y (x i (by omega)))).symm), fun y => nx 1 (bI_t (fun r hr => ?_)).symm⟩
    by_cases c : r = i
    · rw [c]; exact y
    · exact bI_n0.mp z r (by omega)
  · exact t_X12_fitsRows_4 (pk_le n (3 * (n / 3)) (fun _ => ⟨bI_01 _, hp⟩) (fun z => absurd z (by omega)) h11)
theorem fit_frame {M4 M7 : zM} {n : Nat} (h : Rel M) (u4 : uC M4 M) (t2 : M.1 0 9 = nI n) (r7 : rr M7 (usM M4)) : M7.1 1 = M.1 1 ∧ (∀ j, j < 400 → M7.1 6 j = sb (byF M j) ∧ byF M j < 256) ∧ M7.1 0 11 = nI n ∧ M7.1 0 0 = 0 ∧ M7.2 = M4.2 := by
  have e0 : M7.1 0 = (usM M4).1 0 := r7.1 0 (by decide) (by decide) (by decide) (by decide) (by decide)
  have e6 : M7.1 6 = (usM M4).1 6 := r7.1 6 (by decide) (by decide) (by decide) (by decide) (by decide)
  exact ⟨r7.w.trans (us_w u4), fun j hj => by rw [e6]; exact us_by h u4 j hj, by rw [e0]; exact us_end u4 t2, by rw [e0]; exact us_00, r7.2.trans us_L⟩
theorem cnt_cut {p : Nat → Prop} {n : Nat} : ∀ d, (∀ s, n ≤ s → s < n + d → ¬ p s) → cntI p (n + d) = cntI p n
  | 0, _ => rfl
  | d + 1, h => by rw [← Nat.add_assoc, ← cnt_n (p := p) (h (n + d) (by omega) (by omega)), cnt_cut d (fun s h1 h2 => h s h1 (by omega))]
theorem op_fits (h : Rel M) (hK : ∀ M', Rel M' → K M') : zCWi E jL_fits (D + 20) 1 [.ref 19, .ref 18] M (opR E jX12_fits (D + 20) [.ref 0] K) := by
  obtain ⟨n, hn, t1, t2⟩ := h.sz
  have t64 := two_t h.ok
  have t0 : 0 < 2 ^ tN (M.1 1) := Nat.two_pow_pos _
  generalize hf : M.1 1 = f at *
  have okf : okF f := hf ▸ h.ok
  have lkf : lawK f := hf ▸ h.lk
  refine e_L_fits (e_X11_fits (s_X11_fittingWorlds h hf hn t1 (fun x M5 hok hx w5 cr5 lw5 => s_bcL (fun M4 e4 px => ?_)) (fun hok => ⟨rfl, fun px => ?_⟩)))
  · rw [n0] at e4
    subst e4
    have eq : cntI (fun i => btL x i = true) 64 = cntI (fitP f (byF M) (n / 3)) (2 ^ tN f) := by
      obtain ⟨d, hd⟩ : ∃ d, 64 = 2 ^ tN f + d := ⟨64 - 2 ^ tN f, by omega⟩
      rw [hd, cnt_cut d (fun s h1 h2 z => by have := ((hx s (by omega)).mp z).1; omega)]
      exact cnt_c (fun s hs => (hx s (by omega)).trans ⟨fun y => y.2, fun y => ⟨hs, y⟩⟩)
    have u4 : uC (zupL M5 18 0 (cntI (fun i => btL x i = true) 64).toInt64) M := uC.of ((zpi_upL rfl).trans w5.pi)
    refine e_X12_fits (s_X12_uses (s_X12_isRows ((us_w u4).trans hf) okf (byF M) (us_by h u4) hn (us_end u4 t2) ?_))
    rw [bI_t hok]
    refine z1A (t_X12_fits_17 (s_throws0 (z0A (s_X12_laysWorlds ((us_w u4).trans hf) okf lkf (fun M7 hz r7 => ?_)))))
    obtain ⟨f1, f6, f11, f00, fL⟩ := fit_frame h u4 t2 r7
    have hm := f1.trans hf
    refine zup_loop (fun s => w_X12_fits_34 E (D + 19) (fun b M2 => M2.1 0 0 = 0 ∧ ((0 : Int32) = 0 → M2.2 18 0 = b.toInt64) ∧ K M2) px (cntI (fitP f (byF M) (n / 3)) s) (nI s) M7) (2 ^ tN f) (fun s hs ih => ?_) ?_ 0 (Nat.zero_le _)
    · refine t_X12_fits_34 (s_X12_allThings2 hm okf (pk_lt (2 ^ tN f - 1) s (fun z => absurd z (by omega)) (fun _ => s_X12_fitsRows hm okf (byF M) f6 f11 hok hz hs ⟨fun z => t_X12_fits_56 ?_, fun z => t_X12_fits_56 ?_⟩)))
      · rw [nI_1, cnt_0 (p := fitP f (byF M) (n / 3)) (bI_0.mp z)]; exact ih
      · rw [nI_1, cnt_y (p := fitP f (byF M) (n / 3)) (bI_n0.mp z)]; exact ih
    · exact t_X12_fits_34 (s_X12_allThings2 hm okf (pk_lt (2 ^ tN f - 1) (2 ^ tN f) (fun _ => ok_us h u4 hK f00 fL r7.pi eq.symm) (fun z => absurd z (by omega))))
  · have u1 : uC (zup M 20 1 0) M := uC.of rfl
    refine e_X12_fits (s_X12_uses (s_X12_isRows ((us_w u1).trans hf) okf (byF M) (us_by h u1) hn (us_end u1 t2) ?_))
    rw [bI_f hok]
    exact z0B (t_X12_fits_17 (s_throws1 (z1B (bad_us h u1 hK (by decide)))))
noncomputable def fdI (p : Nat → Prop) (g : Int32 → Int32 → Int32) (a : Int32) : Nat → Int32
  | 0 => a
  | s + 1 => @ite _ (p s) (Classical.propDecidable _) (g (fdI p g a s) (nI s)) (fdI p g a s)
theorem fd_y {p : Nat → Prop} {g : Int32 → Int32 → Int32} {a : Int32} {s : Nat} (h : p s) : g (fdI p g a s) (nI s) = fdI p g a (s + 1) := (if_pos h).symm
theorem fd_n {p : Nat → Prop} {g : Int32 → Int32 → Int32} {a : Int32} {s : Nat} (h : ¬ p s) : fdI p g a s = fdI p g a (s + 1) := (if_neg h).symm
theorem fd_0 {p : Nat → Prop} {g : Int32 → Int32 → Int32} {a : Int32} : ∀ {n : Nat}, (∀ s, s < n → ¬ p s) → fdI p g a n = a
  | 0, _ => rfl
  | n + 1, h => by rw [← fd_n (h n (by omega)), fd_0 (fun s hs => h s (by omega))]
noncomputable def suF (f : zRow) (b : Nat → Nat) (R : Nat) : Int32 := @ite _ (∃ s, s < 2 ^ tN f ∧ fitP f b R s) (Classical.propDecidable _) (fdI (fitP f b R) (fun a s => a &&& s) (nI (2 ^ tN f - 1)) (2 ^ tN f)) 0
theorem op_sure (h : Rel M) (hK : ∀ M', Rel M' → K M') : zCWi E jL_sure (D + 20) 1 [.ref 19, .ref 18] M (opR E jX12_sure (D + 20) [.ref 0] K) := by
  obtain ⟨n, hn, t1, t2⟩ := h.sz
  have t64 := two_t h.ok
  have t0 : 0 < 2 ^ tN (M.1 1) := Nat.two_pow_pos _
  generalize hf : M.1 1 = f at *
  have okf : okF f := hf ▸ h.ok
  have lkf : lawK f := hf ▸ h.lk
  refine e_L_sure (e_X11_sure (s_X11_fittingWorlds h hf hn t1 (fun x M5 hok hx w5 cr5 lw5 => ?_) (fun hok => ⟨rfl, fun px => ?_⟩)))
  · have ref : opR E jX12_sure (D + 20) [.ref 0] K 0 (zupL M5 18 0 (suF f (byF M) (n / 3)).toInt64) := fun px => by
      have u4 : uC (zupL M5 18 0 (suF f (byF M) (n / 3)).toInt64) M := uC.of ((zpi_upL rfl).trans w5.pi)
      refine e_X12_sure (s_X12_uses (s_X12_isRows ((us_w u4).trans hf) okf (byF M) (us_by h u4) hn (us_end u4 t2) ?_))
      rw [bI_t hok]
      refine z1A (t_X12_sure_17 (s_throws0 (z0A (s_X12_laysWorlds ((us_w u4).trans hf) okf lkf (fun M7 hz r7 => ?_)))))
      obtain ⟨f1, f6, f11, f00, fL⟩ := fit_frame h u4 t2 r7
      have hm := f1.trans hf
      refine s_X12_allThings2 hm okf ?_
      have h00 : bI (∃ s, s < 0 ∧ fitP f (byF M) (n / 3) s) = 0 := bI_f (fun ⟨s, h1, _⟩ => absurd h1 (by omega))
      have key := zup_loop (fun s => w_X12_sure_39 E (D + 19) (fun b M2 => M2.1 0 0 = 0 ∧ ((0 : Int32) = 0 → M2.2 18 0 = b.toInt64) ∧ K M2) px (fdI (fitP f (byF M) (n / 3)) (fun a s => a &&& s) (nI (2 ^ tN f - 1)) s) (bI (∃ s', s' < s ∧ fitP f (byF M) (n / 3) s')) (nI s) M7) (2 ^ tN f) (fun s hs ih => ?_) ?_ 0 (Nat.zero_le _)
      · rw [h00] at key
        exact key
      · have nx : ∀ a v, a = fdI (fitP f (byF M) (n / 3)) (fun a s => a &&& s) (nI (2 ^ tN f - 1)) (s + 1) → v = bI (∃ s', s' < s + 1 ∧ fitP f (byF M) (n / 3) s') → w_X12_sure_64 E (D + 19) (fun b M2 => M2.1 0 0 = 0 ∧ ((0 : Int32) = 0 → M2.2 18 0 = b.toInt64) ∧ K M2) px a v (nI s) M7 := fun a v ha hv => t_X12_sure_64 (by rw [nI_1, ha, hv]; exact ih)
        refine t_X12_sure_39 (s_X12_allThings2 hm okf (pk_lt (2 ^ tN f - 1) s (fun z => absurd z (by omega)) (fun _ => s_X12_fitsRows hm okf (byF M) f6 f11 hok hz hs ⟨fun z => nx _ _ (fd_y (g := fun a s => a &&& s) (bI_n0.mp z)) ?_, fun z => nx _ _ (fd_n (bI_0.mp z)) ?_⟩)))
        · exact (bI_t ⟨s, by omega, bI_n0.mp z⟩).symm
        · refine bI_c ⟨fun ⟨s', h1, h2⟩ => ⟨s', by omega, h2⟩, fun ⟨s', h1, h2⟩ => ⟨s', ?_, h2⟩⟩
          have : s' ≠ s := fun e => bI_0.mp z (e ▸ h2)
          omega
      · refine t_X12_sure_39 (s_X12_allThings2 hm okf (pk_lt (2 ^ tN f - 1) (2 ^ tN f) (fun _ => ⟨fun z => t_X12_sure_79 (ok_us h u4 hK f00 fL r7.pi ?_), fun z => t_X12_sure_79 (ok_us h u4 hK f00 fL r7.pi ?_)⟩) (fun z => absurd z (by omega))))
        · exact (if_neg (bI_0.mp z)).symm
        · exact (if_pos (bI_n0.mp z)).symm
    have loop : ∀ a, fdI (fitP f (byF M) (n / 3)) (fun a s => a &&& s) a (2 ^ tN f) = suF f (byF M) (n / 3) → w_X11_sure_26 E (D + 18) (fun r3 M1 => ∀ M4 : zM, M4 = zupL M1 18 (0 : Int32).toNatClampNeg r3.toInt64 → opR E jX12_sure (D + 20) [.ref 0] K 0 M4) (fun X M9 => X = "java/lang/IllegalArgumentException" ∧ opR E jX12_sure (D + 20) [.ref 0] K 1 M9) x a 0 M5 := fun a ha => by
      refine zup_loop (fun s => w_X11_sure_26 E (D + 18) (fun r3 M1 => ∀ M4 : zM, M4 = zupL M1 18 (0 : Int32).toNatClampNeg r3.toInt64 → opR E jX12_sure (D + 20) [.ref 0] K 0 M4) (fun X M9 => X = "java/lang/IllegalArgumentException" ∧ opR E jX12_sure (D + 20) [.ref 0] K 1 M9) x (fdI (fitP f (byF M) (n / 3)) (fun a s => a &&& s) a s) (nI s) M5) (2 ^ tN f) (fun s hs ih => ?_) ?_ 0 (Nat.zero_le _)
      · have bx : btL x s = true ↔ fitP f (byF M) (n / 3) s := (hx s (by omega)).trans ⟨fun y => y.2, fun y => ⟨hs, y⟩⟩
        refine t_X11_sure_26 (s_worldCount zc61 cr5 okf (pk_le (2 ^ tN f) s (fun z => absurd z (by omega)) (fun _ => ⟨fun z => t_X11_sure_54 ?_, fun z => t_X11_sure_54 ?_⟩)))
        · rw [nI_1, fd_n (fun y => (bitL (by omega)).mp z (bx.mpr y))]; exact ih
        · rw [nI_1]
          exact fa_post (P := fun y => w_X11_sure_26 E (D + 18) _ _ x y (nI (s + 1)) M5) (fd_y (g := fun a s => a &&& s) (bx.mp (Classical.byContradiction (fun y => z ((bitL (by omega)).mpr y))))) ih
      · refine t_X11_sure_26 (s_worldCount zc61 cr5 okf (pk_le (2 ^ tN f) (2 ^ tN f) (fun _ M4 e4 => ?_) (fun z => absurd z (by omega))))
        rw [e4, ha]
        exact ref
    refine ⟨fun z => e_X3_allThings zc61 (t_X11_sure_22 ?_), fun z => t_X11_sure_22 ?_⟩
    · rw [show M5.1 61 6 = nI (tN f) from cr5.1.2.1.trans okf.t.1, all_nI okf.t.2]
      refine loop _ (if_pos (Classical.byContradiction (fun hn => z (cmpL0.mpr (btL_ext (fun s hs => ?_)))))).symm
      rw [btL_0]
      exact Bool.eq_false_iff.mpr (fun y => hn ⟨s, (hx s hs).mp y⟩)
    · have no : ¬ ∃ s, s < 2 ^ tN f ∧ fitP f (byF M) (n / 3) s := fun ⟨s, h1, h2⟩ => by
        have := (hx s (by omega)).mpr ⟨h1, h2⟩
        rw [cmpL0.mp z, btL_0] at this
        cases this
      refine loop 0 ?_
      rw [fd_0 (fun s h1 h2 => no ⟨s, h1, h2⟩)]
      exact (if_neg no).symm
  · have u1 : uC (zup M 20 1 0) M := uC.of rfl
    refine e_X12_sure (s_X12_uses (s_X12_isRows ((us_w u1).trans hf) okf (byF M) (us_by h u1) hn (us_end u1 t2) ?_))
    rw [bI_f hok]
    exact z0B (t_X12_sure_17 (s_throws1 (z1B (bad_us h u1 hK (by decide)))))
theorem op_never (h : Rel M) (hK : ∀ M', Rel M' → K M') : zCWi E jL_never (D + 20) 1 [.ref 19, .ref 18] M (opR E jX12_never (D + 20) [.ref 0] K) := by
  obtain ⟨n, hn, t1, t2⟩ := h.sz
  have t64 := two_t h.ok
  have t0 : 0 < 2 ^ tN (M.1 1) := Nat.two_pow_pos _
  generalize hf : M.1 1 = f at *
  have okf : okF f := hf ▸ h.ok
  have lkf : lawK f := hf ▸ h.lk
  refine e_L_never (e_X11_never (s_X11_fittingWorlds h hf hn t1 (fun x M5 hok hx w5 cr5 lw5 => e_X3_allThings zc61 ?_) (fun hok => ⟨rfl, fun px => ?_⟩)))
  · rw [show M5.1 61 6 = nI (tN f) from cr5.1.2.1.trans okf.t.1, all_nI okf.t.2]
    have ref : opR E jX12_never (D + 20) [.ref 0] K 0 (zupL M5 18 0 (fdI (fitP f (byF M) (n / 3)) (fun a s => a &&& (s ^^^ -1)) (nI (2 ^ tN f - 1)) (2 ^ tN f)).toInt64) := fun px => by
      have u4 : uC (zupL M5 18 0 (fdI (fitP f (byF M) (n / 3)) (fun a s => a &&& (s ^^^ -1)) (nI (2 ^ tN f - 1)) (2 ^ tN f)).toInt64) M := uC.of ((zpi_upL rfl).trans w5.pi)
      refine e_X12_never (s_X12_uses (s_X12_isRows ((us_w u4).trans hf) okf (byF M) (us_by h u4) hn (us_end u4 t2) ?_))
      rw [bI_t hok]
      refine z1A (t_X12_never_17 (s_throws0 (z0A (s_X12_laysWorlds ((us_w u4).trans hf) okf lkf (fun M7 hz r7 => ?_)))))
      obtain ⟨f1, f6, f11, f00, fL⟩ := fit_frame h u4 t2 r7
      have hm := f1.trans hf
      refine s_X12_allThings2 hm okf ?_
      refine zup_loop (fun s => w_X12_never_37 E (D + 19) (fun b M2 => M2.1 0 0 = 0 ∧ ((0 : Int32) = 0 → M2.2 18 0 = b.toInt64) ∧ K M2) px (fdI (fitP f (byF M) (n / 3)) (fun a s => a &&& (s ^^^ -1)) (nI (2 ^ tN f - 1)) s) (nI s) M7) (2 ^ tN f) (fun s hs ih => ?_) ?_ 0 (Nat.zero_le _)
      · have nx : ∀ a, a = fdI (fitP f (byF M) (n / 3)) (fun a s => a &&& (s ^^^ -1)) (nI (2 ^ tN f - 1)) (s + 1) → w_X12_never_62 E (D + 19) (fun b M2 => M2.1 0 0 = 0 ∧ ((0 : Int32) = 0 → M2.2 18 0 = b.toInt64) ∧ K M2) px (nI s) a M7 := fun a ha => t_X12_never_62 (by rw [nI_1, ha]; exact ih)
        exact t_X12_never_37 (s_X12_allThings2 hm okf (pk_lt (2 ^ tN f - 1) s (fun z => absurd z (by omega)) (fun _ => s_X12_fitsRows hm okf (byF M) f6 f11 hok hz hs ⟨fun z => nx _ (fd_n (bI_0.mp z)), fun z => nx _ (fd_y (g := fun a s => a &&& (s ^^^ -1)) (bI_n0.mp z))⟩)))
      · exact t_X12_never_37 (s_X12_allThings2 hm okf (pk_lt (2 ^ tN f - 1) (2 ^ tN f) (fun _ => ok_us h u4 hK f00 fL r7.pi rfl) (fun z => absurd z (by omega))))
    refine zup_loop (fun s => w_X11_never_16 E (D + 18) (fun r3 M1 => ∀ M4 : zM, M4 = zupL M1 18 (0 : Int32).toNatClampNeg r3.toInt64 → opR E jX12_never (D + 20) [.ref 0] K 0 M4) (fun X M9 => X = "java/lang/IllegalArgumentException" ∧ opR E jX12_never (D + 20) [.ref 0] K 1 M9) x (fdI (fitP f (byF M) (n / 3)) (fun a s => a &&& (s ^^^ -1)) (nI (2 ^ tN f - 1)) s) (nI s) M5) (2 ^ tN f) (fun s hs ih => ?_) ?_ 0 (Nat.zero_le _)
    · have bx : btL x s = true ↔ fitP f (byF M) (n / 3) s := (hx s (by omega)).trans ⟨fun y => y.2, fun y => ⟨hs, y⟩⟩
      refine t_X11_never_16 (s_worldCount zc61 cr5 okf (pk_le (2 ^ tN f) s (fun z => absurd z (by omega)) (fun _ => ⟨fun z => t_X11_never_46 ?_, fun z => t_X11_never_46 ?_⟩)))
      · rw [nI_1, fd_n (fun y => (bitL (by omega)).mp z (bx.mpr y))]; exact ih
      · rw [nI_1]
        exact fa_post (P := fun y => w_X11_never_16 E (D + 18) _ _ x y (nI (s + 1)) M5) (fd_y (g := fun a s => a &&& (s ^^^ -1)) (bx.mp (Classical.byContradiction (fun y => z ((bitL (by omega)).mpr y))))) ih
    · refine t_X11_never_16 (s_worldCount zc61 cr5 okf (pk_le (2 ^ tN f) (2 ^ tN f) (fun _ M4 e4 => ?_) (fun z => absurd z (by omega))))
      rw [e4]
      exact ref
  · have u1 : uC (zup M 20 1 0) M := uC.of rfl
    refine e_X12_never (s_X12_uses (s_X12_isRows ((us_w u1).trans hf) okf (byF M) (us_by h u1) hn (us_end u1 t2) ?_))
    rw [bI_f hok]
    exact z0B (t_X12_never_17 (s_throws1 (z1B (bad_us h u1 hK (by decide)))))
end FITS
