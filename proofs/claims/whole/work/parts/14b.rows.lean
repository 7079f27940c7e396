/-! ===== one more witness, thing, question, woman ===== -/
theorem okF_add {f g : zRow} {W T Q K : Nat} (hk : okF f) (lW : wN f ≤ W ∧ W ≤ 5) (lT : tN f ≤ T ∧ T ≤ 6) (lQ : qN f ≤ Q ∧ Q ≤ 8) (lK : kN f ≤ K ∧ K ≤ 4) (g0 : g 0 = nI W) (g1 : g 1 = nI T) (g2 : g 2 = nI Q) (g3 : g 3 = nI K) (gs : ∀ j, 4 ≤ j → j < 12 → g j = f j) (gw : ∀ i, i < wN f → g (24 + i) = f (24 + i) ∧ ∀ j, j < 5 → g (29 + 5 * i + j) = f (29 + 5 * i + j)) (gt : ∀ t, t < tN f → ∀ j, j < 3 → g (54 + 3 * t + j) = f (54 + 3 * t + j)) (gq : ∀ q, q < qN f → g (12 + q) = f (12 + q)) (gk : ∀ k, k < kN f → g (20 + k) = f (20 + k)) (nw : ∀ i, wN f ≤ i → i < W → okW g i) (nt : ∀ t, tN f ≤ t → t < T → okT g t) (nq : ∀ q, qN f ≤ q → q < Q → isN (g (12 + q)) (2 ^ T - 1)) (nk : ∀ k, kN f ≤ k → k < K → isN (g (20 + k)) 20 ∧ 0 < tn (g (20 + k))) : okF g := by
  have eW : wN g = W := by show tn (g 0) = W; rw [g0, tn_nI (by omega)]
  have eT : tN g = T := by show tn (g 1) = T; rw [g1, tn_nI (by omega)]
  have eQ : qN g = Q := by show tn (g 2) = Q; rw [g2, tn_nI (by omega)]
  have eK : kN g = K := by show tn (g 3) = K; rw [g3, tn_nI (by omega)]
  obtain ⟨⟨a0, a1, a2, a3, a4, a5, a6, a7, a8, a9, a10⟩, bW, cT, dQ, eK'⟩ := hk
  refine ⟨⟨by rw [g0]; exact isN.of lW.2, by rw [g1]; exact isN.of lT.2, by rw [g2]; exact isN.of lQ.2, by rw [g3]; exact isN.of lK.2, by rw [gs 4 (by decide) (by decide)]; exact a4, by rw [gs 5 (by decide) (by decide)]; exact a5, by rw [gs 6 (by decide) (by decide)]; exact a6, by rw [gs 7 (by decide) (by decide)]; exact a7, by rw [gs 8 (by decide) (by decide)]; exact a8, by rw [gs 9 (by decide) (by decide)]; exact a9, by rw [gs 10 (by decide) (by decide)]; exact a10⟩, fun i hi => ?_, fun t ht => ?_, fun q hq => ?_, fun k hk => ?_⟩
  · rw [eW] at hi
    by_cases ci : i < wN f
    · obtain ⟨b1, b2, b3, b4, b5, b6, b7, b8, b9, b10⟩ := bW i ci
      obtain ⟨x1, x2⟩ := gw i ci
      have y0 : g (29 + 5 * i) = f (29 + 5 * i) := x2 0 (by decide)
      unfold okW
      rw [eW, y0, x2 1 (by decide), x2 2 (by decide), x2 3 (by decide), x2 4 (by decide), x1, (gw _ b6).1, (gw _ b8).2 4 (by decide)]
      exact ⟨b1, b2, b3, b4, b5, by omega, b7, by omega, b9, b10⟩
    · exact nw i (by omega) hi
  · rw [eT] at ht
    by_cases ci : t < tN f
    · have y0 : g (54 + 3 * t) = f (54 + 3 * t) := gt t ci 0 (by decide)
      have c1 := cT t ci
      unfold okT at c1 ⊢
      rw [y0, gt t ci 1 (by decide), gt t ci 2 (by decide)]
      exact c1
    · exact nt t (by omega) ht
  · rw [eQ] at hq
    rw [eT]
    by_cases ci : q < qN f
    · rw [gq q ci]
      have p : 2 ^ tN f ≤ 2 ^ T := Nat.pow_le_pow_right (by decide) lT.1
      exact (dQ q ci).mono (by omega)
    · exact nq q (by omega) hq
  · rw [eK] at hk
    by_cases ci : k < kN f
    · rw [gk k ci]; exact eK' k ci
    · exact nk k (by omega) hk
theorem cR_add {f g : zRow} {W T Q K : Nat} {M M' : zM} {B : Nat} (hk : okF f) (hc : cR M B f) (lW : W ≤ 5) (lT : T ≤ 6) (lQ : Q ≤ 8) (lK : K ≤ 4) (g0 : g 0 = nI W) (g1 : g 1 = nI T) (g2 : g 2 = nI Q) (g3 : g 3 = nI K) (gs : ∀ j, 4 ≤ j → j < 12 → g j = f j) (gw : ∀ i, i < wN f → g (24 + i) = f (24 + i) ∧ ∀ j, j < 5 → g (29 + 5 * i + j) = f (29 + 5 * i + j)) (gt : ∀ t, t < tN f → ∀ j, j < 3 → g (54 + 3 * t + j) = f (54 + 3 * t + j)) (gq : ∀ q, q < qN f → g (12 + q) = f (12 + q)) (gk : ∀ k, k < kN f → g (20 + k) = f (20 + k)) (gl : ∀ j, 72 ≤ j → j < 372 → g j = f j)
    (m0 : M'.1 (B + 1) 6 = nI W) (m1 : M'.1 B 6 = nI T) (m2 : M'.1 B 7 = nI Q) (m3 : M'.1 B 8 = nI K) (ms : M'.1 B 10 = soF g) (mr : ∀ j, 9 ≤ j → j < 16 → j ≠ 10 → M'.1 B j = M.1 B j) (mw : ∀ i, i < wN f → ∀ o, 2 ≤ o → o < 8 → M'.1 (B + o) i = M.1 (B + o) i) (mt : ∀ t, t < tN f → M'.1 (B + 10) t = M.1 (B + 10) t ∧ M'.1 (B + 11) t = M.1 (B + 11) t) (mq : ∀ q, q < qN f → M'.1 (B + 12) q = M.1 (B + 12) q) (mk : ∀ k, k < kN f → M'.1 (B + 13) k = M.1 (B + 13) k) (ml : M'.1 (B + 8) 1 = M.1 (B + 8) 1 ∧ M'.1 (B + 8) 2 = M.1 (B + 8) 2) (mL : ∀ j, M'.2 (B + 9) j = M.2 (B + 9) j)
    (xw : ∀ i, wN f ≤ i → i < W → cR2 M' B g i) (xt : ∀ t, tN f ≤ t → t < T → M'.1 (B + 10) t = g (54 + 3 * t) ∧ M'.1 (B + 11) t = g (54 + 3 * t + 1)) (xq : ∀ q, qN f ≤ q → q < Q → M'.1 (B + 12) q = g (12 + q)) (xk : ∀ k, kN f ≤ k → k < K → M'.1 (B + 13) k = g (20 + k)) : cR M' B g := by
  have eW : wN g = W := by show tn (g 0) = W; rw [g0, tn_nI (by omega)]
  have eT : tN g = T := by show tn (g 1) = T; rw [g1, tn_nI (by omega)]
  have eQ : qN g = Q := by show tn (g 2) = Q; rw [g2, tn_nI (by omega)]
  have eK : kN g = K := by show tn (g 3) = K; rw [g3, tn_nI (by omega)]
  have g60 := hk.g.2
  obtain ⟨⟨s0, s1, s2, s3, s4, s5, s6, s7, s8, s9, s10⟩, r, t, q, k, l1, nx, l2, l3, l4⟩ := hc
  refine ⟨⟨by rw [m0, g0], by rw [m1, g1], by rw [m2, g2], by rw [m3, g3], by rw [mr 9 (by decide) (by decide) (by decide), gs 4 (by decide) (by decide)]; exact s4, ms, by rw [mr 11 (by decide) (by decide) (by decide), gs 7 (by decide) (by decide)]; exact s6, by rw [mr 12 (by decide) (by decide) (by decide), gs 8 (by decide) (by decide)]; exact s7, by rw [mr 13 (by decide) (by decide) (by decide), gs 9 (by decide) (by decide)]; exact s8, by rw [mr 14 (by decide) (by decide) (by decide), gs 6 (by decide) (by decide)]; exact s9, by rw [mr 15 (by decide) (by decide) (by decide), gs 11 (by decide) (by decide)]; exact s10⟩, fun i hi => ?_, fun i hi => ?_, fun i hi => ?_, fun i hi => ?_, ?_, nx, l2, ?_, fun i hi => ?_⟩
  · rw [eW] at hi
    by_cases ci : i < wN f
    · obtain ⟨r0, r1, r2, r3, r4, r5⟩ := r i ci
      obtain ⟨x1, x2⟩ := gw i ci
      have y0 : g (29 + 5 * i) = f (29 + 5 * i) := x2 0 (by decide)
      unfold cR2
      rw [y0, x2 1 (by decide), x2 2 (by decide), x2 3 (by decide), x2 4 (by decide), x1, mw i ci 2 (by decide) (by decide), mw i ci 3 (by decide) (by decide), mw i ci 4 (by decide) (by decide), mw i ci 5 (by decide) (by decide), mw i ci 6 (by decide) (by decide), mw i ci 7 (by decide) (by decide)]
      exact ⟨r0, r1, r2, r3, r4, r5⟩
    · exact xw i (by omega) hi
  · rw [eT] at hi
    by_cases ci : i < tN f
    · have y0 : g (54 + 3 * i) = f (54 + 3 * i) := gt i ci 0 (by decide)
      rw [(mt i ci).1, (mt i ci).2, y0, gt i ci 1 (by decide)]
      exact t i ci
    · exact xt i (by omega) hi
  · rw [eQ] at hi
    by_cases ci : i < qN f
    · rw [mq i ci, gq i ci]; exact q i ci
    · exact xq i (by omega) hi
  · rw [eK] at hi
    by_cases ci : i < kN f
    · rw [mk i ci, gk i ci]; exact k i ci
    · exact xk i (by omega) hi
  · rw [ml.1, gs 10 (by decide) (by decide)]; exact l1
  · rw [ml.2]; exact l3
  · have eG : gN g = gN f := by show tn (g 10) = tn (f 10); rw [gs 10 (by decide) (by decide)]
    rw [eG] at hi
    have h4 := l4 i hi
    rw [mL]
    unfold lgR at h4 ⊢
    rw [gl (72 + 5 * i) (by omega) (by omega), gl (72 + 5 * i + 1) (by omega) (by omega), gl (72 + 5 * i + 2) (by omega) (by omega), gl (72 + 5 * i + 3) (by omega) (by omega), gl (72 + 5 * i + 4) (by omega) (by omega)]
    exact h4
def nwF (f : zRow) (a b c d : Nat) : zRow := upd (upd (upd (upd (upd (upd (upd f (29 + 5 * wN f) (nI a)) (29 + 5 * wN f + 1) (nI b)) (29 + 5 * wN f + 2) (nI c)) (29 + 5 * wN f + 3) (nI d)) (29 + 5 * wN f + 4) (nI (wN f))) (24 + wN f) (nI (wN f))) 0 (nI (wN f + 1))
def ntF (f : zRow) (a s o : Nat) : zRow := upd (upd (upd (upd f (54 + 3 * tN f) (nI a)) (54 + 3 * tN f + 1) (nI s)) (54 + 3 * tN f + 2) (nI o)) 1 (nI (tN f + 1))
def nqF (f : zRow) (s : Nat) : zRow := upd (upd f (12 + qN f) (nI s)) 2 (nI (qN f + 1))
def nkF (f : zRow) (v : Nat) : zRow := upd (upd f (20 + kN f) (nI v)) 3 (nI (kN f + 1))
/-- what no line of a court's text changes -/
def frm (g f : zRow) : Prop := (∀ j, 72 ≤ j → g j = f j) ∧ g 4 = f 4 ∧ g 5 = f 5
theorem frm.refl {f : zRow} : frm f f := ⟨fun _ _ => rfl, rfl, rfl⟩
theorem frm.trans {g h f : zRow} (a : frm g h) (b : frm h f) : frm g f := ⟨fun j hj => (a.1 j hj).trans (b.1 j hj), a.2.1.trans b.2.1, a.2.2.trans b.2.2⟩
section NEW
variable {f : zRow} {a b c d : Nat}
theorem nw_o {j : Nat} (h0 : j ≠ 0) (h1 : j ≠ 24 + wN f) (h2 : j < 29 + 5 * wN f ∨ 29 + 5 * wN f + 5 ≤ j) : nwF f a b c d j = f j := by
  unfold nwF
  rw [pk_un h0, pk_un h1, pk_un (by omega), pk_un (by omega), pk_un (by omega), pk_un (by omega), pk_un (by omega)]
theorem nw_0 : nwF f a b c d 0 = nI (wN f + 1) := pk_us
theorem nw_s (h : wN f < 5) : nwF f a b c d (24 + wN f) = nI (wN f) := by
  unfold nwF
  rw [pk_un (by omega), pk_us]
theorem nw_4 (h : wN f < 5) : nwF f a b c d (29 + 5 * wN f + 4) = nI (wN f) := by
  unfold nwF
  rw [pk_un (by omega), pk_un (by omega), pk_us]
theorem nw_3 (h : wN f < 5) : nwF f a b c d (29 + 5 * wN f + 3) = nI d := by
  unfold nwF
  rw [pk_un (by omega), pk_un (by omega), pk_un (by omega), pk_us]
theorem nw_2 (h : wN f < 5) : nwF f a b c d (29 + 5 * wN f + 2) = nI c := by
  unfold nwF
  rw [pk_un (by omega), pk_un (by omega), pk_un (by omega), pk_un (by omega), pk_us]
theorem nw_1 (h : wN f < 5) : nwF f a b c d (29 + 5 * wN f + 1) = nI b := by
  unfold nwF
  rw [pk_un (by omega), pk_un (by omega), pk_un (by omega), pk_un (by omega), pk_un (by omega), pk_us]
theorem nw_z (h : wN f < 5) : nwF f a b c d (29 + 5 * wN f) = nI a := by
  unfold nwF
  rw [pk_un (by omega), pk_un (by omega), pk_un (by omega), pk_un (by omega), pk_un (by omega), pk_un (by omega), pk_us]
theorem ok_nw (hk : okF f) (h : wN f < 5) (ha : a ≤ 9) (hb : b ≤ 9) (hc : c ≤ 99) (hd : d ≤ 99) : okF (nwF f a b c d) ∧ frm (nwF f a b c d) f := by
  have t6 := hk.t
  have q8 := hk.q
  have k4 := hk.k
  refine ⟨?_, fun j hj => nw_o (by omega) (by omega) (by omega), nw_o (by omega) (by omega) (by omega), nw_o (by omega) (by omega) (by omega)⟩
  refine okF_add (W := wN f + 1) (T := tN f) (Q := qN f) (K := kN f) hk (by omega) (by omega) (by omega) (by omega) nw_0 ?_ ?_ ?_ (fun j h1 h2 => nw_o (by omega) (by omega) (by omega)) (fun i hi => ⟨nw_o (by omega) (by omega) (by omega), fun j hj => nw_o (by omega) (by omega) (by omega)⟩) (fun t ht j hj => nw_o (by omega) (by omega) (by omega)) (fun q hq => nw_o (by omega) (by omega) (by omega)) (fun k hk => nw_o (by omega) (by omega) (by omega)) (fun i h1 h2 => ?_) (fun t h1 h2 => absurd h1 (by omega)) (fun t h1 h2 => absurd h1 (by omega)) (fun t h1 h2 => absurd h1 (by omega))
  · rw [nw_o (by omega) (by omega) (by omega)]; exact t6.1
  · rw [nw_o (by omega) (by omega) (by omega)]; exact q8.1
  · rw [nw_o (by omega) (by omega) (by omega)]; exact k4.1
  · have ei : i = wN f := by omega
    subst ei
    have eW : wN (nwF f a b c d) = wN f + 1 := by show tn (nwF f a b c d 0) = _; rw [nw_0, tn_nI (by omega)]
    have tt : tn (nI (wN f)) = wN f := tn_nI (by omega)
    unfold okW
    rw [eW, nw_z h, nw_1 h, nw_2 h, nw_3 h, nw_4 h, nw_s h, tt, nw_4 h, nw_s h]
    exact ⟨isN.of ha, isN.of hb, isN.of hc, isN.of hd, isN.of (by omega), by omega, isN.of (by omega), by omega, rfl, rfl⟩
theorem nt_o {j : Nat} (h0 : j ≠ 1) (h2 : j < 54 + 3 * tN f ∨ 54 + 3 * tN f + 3 ≤ j) : ntF f a b c j = f j := by
  unfold ntF
  rw [pk_un h0, pk_un (by omega), pk_un (by omega), pk_un (by omega)]
theorem nt_1 : ntF f a b c 1 = nI (tN f + 1) := pk_us
theorem nt_c : ntF f a b c (54 + 3 * tN f + 2) = nI c := by
  unfold ntF
  rw [pk_un (by omega), pk_us]
theorem nt_b : ntF f a b c (54 + 3 * tN f + 1) = nI b := by
  unfold ntF
  rw [pk_un (by omega), pk_un (by omega), pk_us]
theorem nt_a : ntF f a b c (54 + 3 * tN f) = nI a := by
  unfold ntF
  rw [pk_un (by omega), pk_un (by omega), pk_un (by omega), pk_us]
theorem ok_nt (hk : okF f) (h : tN f < 6) (ha : 1 ≤ a ∧ a ≤ 9) (hb : b ≤ 31) (hc : c ≤ 1) : okF (ntF f a b c) ∧ frm (ntF f a b c) f := by
  have w5 := hk.w
  have q8 := hk.q
  have k4 := hk.k
  refine ⟨?_, fun j hj => nt_o (by omega) (by omega), nt_o (by omega) (by omega), nt_o (by omega) (by omega)⟩
  refine okF_add (W := wN f) (T := tN f + 1) (Q := qN f) (K := kN f) hk (by omega) (by omega) (by omega) (by omega) ?_ nt_1 ?_ ?_ (fun j h1 h2 => nt_o (by omega) (by omega)) (fun i hi => ⟨nt_o (by omega) (by omega), fun j hj => nt_o (by omega) (by omega)⟩) (fun t ht j hj => nt_o (by omega) (by omega)) (fun q hq => nt_o (by omega) (by omega)) (fun k hk => nt_o (by omega) (by omega)) (fun t h1 h2 => absurd h1 (by omega)) (fun i h1 h2 => ?_) (fun t h1 h2 => absurd h1 (by omega)) (fun t h1 h2 => absurd h1 (by omega))
  · rw [nt_o (by omega) (by omega)]; exact w5.1
  · rw [nt_o (by omega) (by omega)]; exact q8.1
  · rw [nt_o (by omega) (by omega)]; exact k4.1
  · have ei : i = tN f := by omega
    subst ei
    unfold okT
    rw [nt_a, nt_b, nt_c, tn_nI (by omega)]
    exact ⟨isN.of ha.2, by omega, isN.of hb, isN.of hc⟩
theorem nq_o {j : Nat} (h0 : j ≠ 2) (h2 : j ≠ 12 + qN f) : nqF f a j = f j := by
  unfold nqF
  rw [pk_un h0, pk_un h2]
theorem nq_2 : nqF f a 2 = nI (qN f + 1) := pk_us
theorem nq_a : nqF f a (12 + qN f) = nI a := by
  unfold nqF
  rw [pk_un (by omega), pk_us]
theorem ok_nq (hk : okF f) (h : qN f < 8) (ha : a < 2 ^ tN f) : okF (nqF f a) ∧ frm (nqF f a) f := by
  have w5 := hk.w
  have t6 := hk.t
  have k4 := hk.k
  refine ⟨?_, fun j hj => nq_o (by omega) (by omega), nq_o (by omega) (by omega), nq_o (by omega) (by omega)⟩
  refine okF_add (W := wN f) (T := tN f) (Q := qN f + 1) (K := kN f) hk (by omega) (by omega) (by omega) (by omega) ?_ ?_ nq_2 ?_ (fun j h1 h2 => nq_o (by omega) (by omega)) (fun i hi => ⟨nq_o (by omega) (by omega), fun j hj => nq_o (by omega) (by omega)⟩) (fun t ht j hj => nq_o (by omega) (by omega)) (fun q hq => nq_o (by omega) (by omega)) (fun k hk => nq_o (by omega) (by omega)) (fun t h1 h2 => absurd h1 (by omega)) (fun t h1 h2 => absurd h1 (by omega)) (fun i h1 h2 => ?_) (fun t h1 h2 => absurd h1 (by omega))
  · rw [nq_o (by omega) (by omega)]; exact w5.1
  · rw [nq_o (by omega) (by omega)]; exact t6.1
  · rw [nq_o (by omega) (by omega)]; exact k4.1
  · have ei : i = qN f := by omega
    subst ei
    rw [nq_a]
    exact isN.of (by omega)
theorem nk_o {j : Nat} (h0 : j ≠ 3) (h2 : j ≠ 20 + kN f) : nkF f a j = f j := by
  unfold nkF
  rw [pk_un h0, pk_un h2]
theorem nk_3 : nkF f a 3 = nI (kN f + 1) := pk_us
theorem nk_a : nkF f a (20 + kN f) = nI a := by
  unfold nkF
  rw [pk_un (by omega), pk_us]
theorem ok_nk (hk : okF f) (h : kN f < 4) (ha : 1 ≤ a ∧ a ≤ 20) : okF (nkF f a) ∧ frm (nkF f a) f := by
  have w5 := hk.w
  have t6 := hk.t
  have q8 := hk.q
  refine ⟨?_, fun j hj => nk_o (by omega) (by omega), nk_o (by omega) (by omega), nk_o (by omega) (by omega)⟩
  refine okF_add (W := wN f) (T := tN f) (Q := qN f) (K := kN f + 1) hk (by omega) (by omega) (by omega) (by omega) ?_ ?_ ?_ nk_3 (fun j h1 h2 => nk_o (by omega) (by omega)) (fun i hi => ⟨nk_o (by omega) (by omega), fun j hj => nk_o (by omega) (by omega)⟩) (fun t ht j hj => nk_o (by omega) (by omega)) (fun q hq => nk_o (by omega) (by omega)) (fun k hk => nk_o (by omega) (by omega)) (fun t h1 h2 => absurd h1 (by omega)) (fun t h1 h2 => absurd h1 (by omega)) (fun t h1 h2 => absurd h1 (by omega)) (fun i h1 h2 => ?_)
  · rw [nk_o (by omega) (by omega)]; exact w5.1
  · rw [nk_o (by omega) (by omega)]; exact t6.1
  · rw [nk_o (by omega) (by omega)]; exact q8.1
  · have ei : i = kN f := by omega
    subst ei
    rw [nk_a, tn_nI (by omega)]
    exact ⟨isN.of ha.2, by omega⟩
theorem so_eqv {g : zRow} (h1 : tN g = tN f) (h2 : ∀ t, t < tN f → g (54 + 3 * t + 2) = f (54 + 3 * t + 2)) : soF g = soF f := by
  unfold soF
  rw [h1]
  exact orI_cong (fun t ht => by rw [h2 t ht])
theorem so_nt (h : tN f < 6) : soF (ntF f a b c) = soF f ||| (nI c <<< (nI (tN f) &&& 31)) := by
  have e1 : tN (ntF f a b c) = tN f + 1 := by show tn (ntF f a b c 1) = _; rw [nt_1, tn_nI (by omega)]
  unfold soF
  rw [e1]
  show orI _ (tN f) ||| (ntF f a b c (54 + 3 * tN f + 2) <<< (nI (tN f) &&& 31)) = _
  rw [nt_c]
  congr 1
  exact orI_cong (fun t ht => by rw [nt_o (by omega) (by omega)])
end NEW
