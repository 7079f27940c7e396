/-! ===== the living court: the reference ===== -/
section LIVER
variable {E : zEv} {D : Nat} {px : String → zM → Prop} {M : zM} {f : zRow}
theorem s_X12_drawn {post : Int32 → zM → Prop} {d : Nat} (hf : M.1 1 = f) (h0 : 0 < d) (hd : d < 2 ^ 31) (hp : ∀ M', M'.1 1 = drawR f → rq M' M → post (zrem (drawV f) (nI d)) M') : zCi E jX12_drawn D 0 [.ref 0, .int (nI d)] M post px := by
  refine e_X12_drawn (fun M1 e1 => ⟨nI_ne0 h0 hd, ?_⟩)
  rw [n11, hf] at e1
  have v1 : M1.1 1 (11 : Int32).toNatClampNeg = 1103515245 * f 11 + 12345 := by rw [n11, e1, zup_s]
  rw [v1, draw_eq]
  exact hp M1 (by rw [e1, zup_row, hf]; rfl) (by rw [e1]; exact rq.up1)
theorem s_X12_isSaid {post : Int32 → zM → Prop} {q how : Nat} (hf : M.1 1 = f) (hk : okF f) (hL : lawK f) (hq : q < 8) (hp : ∀ M', M'.1 1 = saidR f (nI how) q → rq M' M → post (mskF (fun w => ¬ riseF f (sdF f q) w = 0) (wN f)) M') : zCi E jX12_isSaid (D + 8) 0 [.ref 0, .int (nI q), .int (nI how)] M post px := by
  have w5 := hk.w
  refine e_X12_isSaid (s_X12_saidBy (by rw [hf]; exact hk) hq (s_X12_lays hf hk hL (fun M1 h9 r1 => ?_)))
  rw [hf] at h9
  generalize hR : (fun v => riseF f (sdF f q) v) = r
  have h9' : ∀ v, v < wN f → M1.1 9 v = r v := fun v hv => by rw [h9 v hv, ← hR]
  have hsaid : saidR f (nI how) q = saidI f r (nI how) (nI q) (wN f) := by unfold saidR; rw [hR]
  have hmsk : mskF (fun w => ¬ riseF f (sdF f q) w = 0) (wN f) = mskF (fun w => ¬ r w = 0) (wN f) := by rw [← hR]
  rw [hsaid, hmsk] at hp
  refine zup_loop (fun i => ∀ M', M'.1 1 = saidI f r (nI how) (nI q) i → M'.1 9 = M1.1 9 → rq M' M → w_X12_isSaid_14 E (D + 7) post px (nI q) (nI how) (mskF (fun w => ¬ r w = 0) i) (nI i) M') (wN f) (fun i hi ih M' hm hm9 hr => ?_) (fun M' hm hm9 hr => ?_) 0 (by omega) M1 (by rw [r1.w]; exact hf) rfl r1.rq
  · have sm := saidI_sm (f := f) (r := r) (how := nI how) (q := nI q) (i := i) (by omega)
    have hin : vp_in (nI i) 5 := pk_in i _ (by omega)
    refine t_X12_isSaid_14 (e_X12_witnesses (pk_le (wN f) i (fun z => absurd z (by omega)) (fun _ => ⟨hin, ?_⟩) (by rw [hm]; exact (sm.lo (j := 0) (by omega)).trans w5.1)))
    rw [nI_clamp (by omega), hm9, h9' i hi]
    refine ⟨fun z => s_X12_at (what := 3) (s_X12_of (what := 3) (by omega) ⟨hin, pk_in _ _ (show 29 + 5 * i + 3 < 2070 by omega), fun M22 e22 => ⟨hin, ?_⟩⟩), fun z => t_X12_isSaid_89 ?_⟩
    · rw [nI_clamp (by omega), hm, hm9, h9' i hi] at e22
      have k9 : M22.1 9 = M1.1 9 := by rw [e22, zup_o (by decide), hm9]
      rw [k9, h9' i hi]
      refine s_X12_isTold (f := upd (saidI f r (nI how) (nI q) i) (29 + 5 * i + 3) (zmin 99 (saidI f r (nI how) (nI q) i (29 + 5 * i + 3) + r i))) (by rw [e22, zup_row, hm]) (fun M26 h26 r26 => t_X12_isSaid_89 ?_)
      rw [nI_1, msk_y (p := fun w => ¬ r w = 0) z]
      refine ih M26 (by rw [h26, saidI, if_neg z]) (by rw [r26.1 9 (by decide), k9]) (r26.rq.trans (by rw [e22]; exact rq.up1.trans hr))
    · rw [nI_1, msk_n (p := fun w => ¬ r w = 0) (fun q => q z)]
      exact ih M' (by rw [hm, saidI, if_pos z]) hm9 hr
  · have sm := saidI_sm (f := f) (r := r) (how := nI how) (q := nI q) (i := wN f) (by omega)
    exact t_X12_isSaid_14 (e_X12_witnesses (pk_le (wN f) (wN f) (fun _ => hp M' hm hr) (fun z => absurd z (by omega)) (by rw [hm]; exact (sm.lo (j := 0) (by omega)).trans w5.1)))
/-- one witness's draw -/
noncomputable def blS (f : zRow) (i : Nat) : zRow := if zrem (drawV f) 100 < f 8 then toldR (upd (drawR f) (29 + 5 * i + 3) (zmin 99 (f (29 + 5 * i + 3) + 20))) (nI i) 2 (-1) 20 else drawR f
theorem s_X12_blushes {post : zM → Prop} {w : Nat} (hf : M.1 1 = f) (hw : w < 5) (hp : ∀ M', M'.1 1 = blS f w → rq M' M → post M') : zCv E jX12_blushes (D + 2) 0 [.ref 0, .int (nI w)] M post px := by
  refine e_X12_blushes (s_X12_drawn (d := 100) hf (by decide) (by decide) (fun M1 h1 b1 => ?_))
  have e8 : M1.1 1 (8 : Int32).toNatClampNeg = f 8 := by rw [h1]; exact pk_un (by decide)
  rw [e8]
  unfold blS at hp
  refine ⟨fun z => s_X12_at (what := 3) (s_X12_of (what := 3) (by omega) ⟨pk_in _ _ (show 29 + 5 * w + 3 < 2070 by omega), fun M15 e15 => ?_⟩), fun z => ?_⟩
  · rw [if_pos (show zrem (drawV f) 100 < f 8 from z)] at hp
    rw [nI_clamp (by omega), h1, show drawR f (29 + 5 * w + 3) = f (29 + 5 * w + 3) from pk_un (by omega)] at e15
    exact s_X12_isTold (f := upd (drawR f) (29 + 5 * w + 3) (zmin 99 (f (29 + 5 * w + 3) + 20))) (by rw [e15, zup_row, h1]) (fun M17 h17 r17 => hp M17 h17 (r17.rq.trans (by rw [e15]; exact rq.up1.trans b1)))
  · rw [if_neg (show ¬ zrem (drawV f) 100 < f 8 from z)] at hp
    exact hp M1 h1 b1
theorem s_X12_moment {post : Int32 → zM → Prop} (hf : M.1 1 = f) (hk : okF f) (hL : lawK f) (hp : ∀ M', M'.1 1 = momR f → rq M' M → post (bI (tlkF (fallR f))) M') : zCi E jX12_oneMoment (D + 9) 0 [.ref 0, .int 0] M post px := by
  have w5 := hk.w
  refine e_X12_oneMoment (s_X12_allFall hf hk hL (fun M1 h1 r1 => z0B ?_))
  have ok1 := fallR_ok hk hL
  have lk1 := lawK_sm (fallR_sm hk) hL
  have w1 := (fallR_sm hk).w
  unfold momR at hp
  generalize fallR f = g at *
  have wg := ok1.w
  -- behind the talk
  have h55 : ∀ v M2, M2.1 1 = mid1 g → rq M2 M → v = bI (tlkF g) → w_X12_oneMoment_55 E (D + 8) post px 0 v M2 := fun v M2 h2 r2 hv => by
    refine t_X12_oneMoment_55 ?_
    refine zup_loop (fun i => ∀ M', M'.1 1 = blI (mid1 g) i → rq M' M → w_X12_oneMoment_57 E (D + 8) post px 0 v (nI i) M') (wN g) (fun i hi ih M' hm hr => ?_) (fun M' hm hr => ?_) 0 (by omega) M2 h2 r2
    · have sm := (mid1_sm ok1).trans (blI_sm (f := mid1 g) (i := i) (by omega))
      refine t_X12_oneMoment_57 (e_X12_witnesses (pk_le (wN g) i (fun z => absurd z (by omega)) (fun _ => z0B (s_X12_blushes hm (by omega) (fun M10 h10 r10 => ?_))) (by rw [hm]; exact (sm.lo (j := 0) (by omega)).trans wg.1)))
      rw [nI_1]
      exact ih M10 h10 (r10.trans hr)
    · have sm := (mid1_sm ok1).trans (blI_sm (f := mid1 g) (i := wN g) (by omega))
      refine t_X12_oneMoment_57 (e_X12_witnesses (pk_le (wN g) (wN g) (fun _ => t_X12_oneMoment_80 (fun M3 e3 => ?_)) (fun z => absurd z (by omega)) (by rw [hm]; exact (sm.lo (j := 0) (by omega)).trans wg.1)))
      have e6 : M'.1 1 (6 : Int32).toNatClampNeg = mid2 g 6 := by rw [hm]; rfl
      rw [e6] at e3
      have hq := hp M3 (by rw [e3, zup_row, hm]; rfl) (by rw [e3]; exact rq.up1.trans hr)
      rw [← hv] at hq
      refine ⟨fun z => t_X12_oneMoment_111 ?_, fun z => t_X12_oneMoment_111 ?_⟩
      · rw [z] at hq; exact hq
      · rcases bI_01 (tlkF g) with y | y
        · exact absurd (hv.trans y) z
        · rw [hv, y] at hq; exact hq
  refine s_X12_drawn (d := 100) h1 (by decide) (by decide) (fun M6 h6 r6 => ?_)
  have e9 : M6.1 1 (9 : Int32).toNatClampNeg = g 9 := by rw [h6]; exact pk_un (by decide)
  rw [e9]
  have nt : ¬ tlkF g → w_X12_oneMoment_35 E (D + 8) post px 0 M6 := fun hn => t_X12_oneMoment_35 (t_X12_oneMoment_36 (z0A (h55 0 M6 (by unfold mid1; rw [if_neg hn]; exact h6) (r6.trans r1) (bI_f hn).symm)))
  have e2 : M6.1 1 (2 : Int32).toNatClampNeg = g 2 := by rw [h6]; exact pk_un (by decide)
  refine ⟨fun z => nt (fun q => q.1 z), fun z => e_X12_questions ?_⟩
  rw [e2]
  refine ⟨fun z2 => nt (fun q => q.2 z2), fun z2 => t_X12_oneMoment_36 (z1B (e_X12_questions ?_))⟩
  have ht : tlkF g := ⟨z, z2⟩
  obtain ⟨eq1, lq⟩ := qd_lt ok1 z2
  have q8 := ok1.q
  rw [e2, q8.1]
  refine s_X12_drawn (d := qN g) h6 (tlk_q ok1 z2) (by omega) (fun M7 h7 r7 => ?_)
  rw [← q8.1, eq1]
  refine s_X12_isSaid (how := 1) h7 (drawR_ok (drawR_ok ok1)) (lawK_sm (drawR_sm.trans drawR_sm) lk1) (by omega) (fun M10 h10 r10 => ?_)
  exact h55 1 M10 (by unfold mid1; rw [if_pos ht]; exact h10) (r10.trans (r7.trans (r6.trans r1))) (bI_t ht).symm
noncomputable def calmS (f : zRow) : zRow := upd (fallR f) 6 (zmin 9999 (fallR f 6 + 1))
theorem s_X12_calm {post : Int32 → zM → Prop} (hf : M.1 1 = f) (hk : okF f) (hL : lawK f) (hp : ∀ M', M'.1 1 = calmS f → rq M' M → post 0 M') : zCi E jX12_oneMoment (D + 9) 0 [.ref 0, .int 1] M post px := by
  have w5 := hk.w
  refine e_X12_oneMoment (s_X12_allFall hf hk hL (fun M1 h1 r1 => z1A (t_X12_oneMoment_35 (t_X12_oneMoment_36 (z0A (t_X12_oneMoment_55 ?_))))))
  have e0 : M1.1 1 (0 : Int32).toNatClampNeg = nI (wN f) := by rw [h1]; exact ((fallR_sm hk).lo (j := 0) (by omega)).trans w5.1
  have e6 : M1.1 1 (6 : Int32).toNatClampNeg = fallR f 6 := by rw [h1]; rfl
  have fin : w_X12_oneMoment_80 E (D + 8) post px 0 M1 := t_X12_oneMoment_80 (fun M3 e3 => z0A (t_X12_oneMoment_111 (by
    rw [e6] at e3
    exact hp M3 (by rw [e3, zup_row, h1]; rfl) (by rw [e3]; exact rq.up1.trans r1))))
  exact t_X12_oneMoment_57 (e_X12_witnesses ⟨fun _ => fin, fun _ => z1A fin⟩)
noncomputable def calmR (f : zRow) : Nat → zRow
  | 0 => f
  | n + 1 => calmS (calmR f n)
theorem calm_all (hk : okF f) (hL : lawK f) : ∀ n, smR f (calmR f n) ∧ okF (calmR f n) ∧ lawK (calmR f n)
  | 0 => ⟨smR.refl, hk, hL⟩
  | n + 1 => by
    obtain ⟨h1, h2, h3⟩ := calm_all hk hL n
    have s1 : smR (calmR f n) (calmR f (n + 1)) := (fallR_sm h2).trans (smR.up (Or.inl rfl))
    exact ⟨h1.trans s1, ok_moment (fallR_ok h2 h3) (mom_N (fallR_ok h2 h3)), lawK_sm s1 h3⟩
theorem s_X12_goesOn {post : Int32 → zM → Prop} {n : Nat} (hf : M.1 1 = f) (hk : okF f) (hL : lawK f) (hn : n ≤ 60) (hp : ∀ M', M'.1 1 = liveR f n → rq M' M → post (tlkN f n) M') : zCi E jX12_goesOn (D + 10) 0 [.ref 0, .int (nI n), .int 0] M post px := by
  refine e_X12_goesOn (zup_loop (fun i => ∀ M', M'.1 1 = liveR f i → rq M' M → w_X12_goesOn_5 E (D + 9) post px (nI n) 0 (tlkN f i) (nI i) M') n (fun i hi ih M' hm hr => ?_) (fun M' hm hr => ?_) 0 (by omega) M hf rq.refl)
  · obtain ⟨sm, ok, lk⟩ := live_all hk hL i
    refine t_X12_goesOn_5 (pk_le n i (fun z => absurd z (by omega)) (fun _ => s_X12_moment hm ok lk (fun M4 h4 r4 => ?_)))
    rw [nI_1, show tlkN f i + bI (tlkF (fallR (liveR f i))) = tlkN f (i + 1) from rfl]
    exact ih M4 h4 (r4.trans hr)
  · exact t_X12_goesOn_5 (pk_le n n (fun _ => hp M' hm hr) (fun z => absurd z (by omega)))
theorem s_X12_goesCalm {post : Int32 → zM → Prop} {n : Nat} (hf : M.1 1 = f) (hk : okF f) (hL : lawK f) (hn : n ≤ 60) (hp : ∀ M', M'.1 1 = calmR f n → rq M' M → post 0 M') : zCi E jX12_goesOn (D + 10) 0 [.ref 0, .int (nI n), .int 1] M post px := by
  refine e_X12_goesOn (zup_loop (fun i => ∀ M', M'.1 1 = calmR f i → rq M' M → w_X12_goesOn_5 E (D + 9) post px (nI n) 1 0 (nI i) M') n (fun i hi ih M' hm hr => ?_) (fun M' hm hr => ?_) 0 (by omega) M hf rq.refl)
  · obtain ⟨sm, ok, lk⟩ := calm_all hk hL i
    refine t_X12_goesOn_5 (pk_le n i (fun z => absurd z (by omega)) (fun _ => s_X12_calm hm ok lk (fun M4 h4 r4 => ?_)))
    rw [nI_1, Int32.add_zero]
    exact ih M4 h4 (r4.trans hr)
  · exact t_X12_goesOn_5 (pk_le n n (fun _ => hp M' hm hr) (fun z => absurd z (by omega)))
/-! kept and brought back -/
theorem s_X12_keepsAll {post : zM → Prop} (hp : post (zcp M 4 0 1 0 372)) : zCv E jX12_keepsAll D 0 [.ref 0] M post px := by
  have key := zup_loop (fun i => w_X12_keepsAll_2 E D post px (nI i) (zcp M 4 0 1 0 i)) 372 (fun i hi ih => ?_) ?_ 0 (by decide)
  · rw [zcp_0] at key
    exact e_X12_keepsAll key
  · refine t_X12_keepsAll_2 (pk_le 372 i (fun z => absurd z (by omega)) (fun _ => ⟨pk_in i _ (by omega), pk_in i _ (by omega), fun M8 e => ?_⟩))
    rw [nI_clamp (by omega)] at e
    have e2 := zcp_succ (M := M) (o := 4) (d := 0) (o2 := 1) (s := 0) (n := i) (Or.inl (by decide))
    rw [Nat.zero_add] at e2
    rw [e, e2, nI_1]
    exact ih
  · exact t_X12_keepsAll_2 (pk_le 372 372 (fun _ => hp) (fun z => absurd z (by omega)))
theorem s_X12_bringsBack {post : zM → Prop} (hp : post (zcp M 1 0 4 0 372)) : zCv E jX12_bringsBack D 0 [.ref 0] M post px := by
  have key := zup_loop (fun i => w_X12_bringsBack_2 E D post px (nI i) (zcp M 1 0 4 0 i)) 372 (fun i hi ih => ?_) ?_ 0 (by decide)
  · rw [zcp_0] at key
    exact e_X12_bringsBack key
  · refine t_X12_bringsBack_2 (pk_le 372 i (fun z => absurd z (by omega)) (fun _ => ⟨pk_in i _ (by omega), pk_in i _ (by omega), fun M8 e => ?_⟩))
    rw [nI_clamp (by omega)] at e
    have e2 := zcp_succ (M := M) (o := 1) (d := 0) (o2 := 4) (s := 0) (n := i) (Or.inl (by decide))
    rw [Nat.zero_add] at e2
    rw [e, e2, nI_1]
    exact ih
  · exact t_X12_bringsBack_2 (pk_le 372 372 (fun _ => hp) (fun z => absurd z (by omega)))
/-- the world is as it was; scratch rows may have changed -/
def rt (M' M : zM) : Prop := (∀ o, o ≠ 4 → o ≠ 8 → o ≠ 9 → o ≠ 10 → M'.1 o = M.1 o) ∧ M'.2 = M.2
theorem rt.refl {M : zM} : rt M M := ⟨fun _ _ _ _ _ => rfl, rfl⟩
theorem rt.trans {M1 M2 M3 : zM} (h : rt M1 M2) (h2 : rt M2 M3) : rt M1 M3 := ⟨fun o a b c d => (h.1 o a b c d).trans (h2.1 o a b c d), h.2.trans h2.2⟩
theorem rt.w {M' M : zM} (h : rt M' M) : M'.1 1 = M.1 1 := h.1 1 (by decide) (by decide) (by decide) (by decide)
theorem rt.ro {M2 M : zM} (h : rt M2 (zup M 0 0 0)) : ro M2 M := ⟨by rw [h.1 0 (by decide) (by decide) (by decide) (by decide)]; exact zup_s, h.2, Eq.trans (zpi_of fun o j hi => ⟨by
  rw [h.1 o (by rintro rfl; cases hi) (by rintro rfl; cases hi) (by rintro rfl; cases hi) (by rintro rfl; cases hi)], by rw [h.2]⟩) (zpi_up rfl)⟩
/-- kept: the row 4 holds the world -/
def kp (M' M : zM) : Prop := rt M' M ∧ ∀ j, j < 372 → M'.1 4 j = M.1 1 j
theorem kp.of {M : zM} : kp (zcp M 4 0 1 0 372) M := ⟨⟨fun o h _ _ _ => funext fun j => zcp_out (Or.inl h), rfl⟩, fun j hj => by
  rw [zcp_in (by omega) (by omega)]
  exact congrArg (M.1 1) (by omega)⟩
theorem kp.back {M0 Mk Ml : zM} (hk : kp Mk M0) (hr : rq Ml Mk) (hh : ∀ j, 372 ≤ j → Ml.1 1 j = M0.1 1 j) : kp (zcp Ml 1 0 4 0 372) M0 := by
  have e4 : Ml.1 4 = Mk.1 4 := hr.1 4 (by decide) (by decide) (by decide) (by decide)
  refine ⟨⟨fun o h1 h2 h3 h4 => ?_, hr.2.trans hk.1.2⟩, fun j hj => ?_⟩
  · by_cases c : o = 1
    · subst c
      funext j
      by_cases cj : j < 372
      · rw [zcp_in (by omega) (by omega), e4, show 0 + (j - 0) = j by omega]
        exact hk.2 j cj
      · rw [zcp_out (Or.inr (Or.inr (by omega)))]
        exact hh j (by omega)
    · funext j
      rw [zcp_out (Or.inl c), hr.1 o c h2 h3 h4, hk.1.1 o h1 h2 h3 h4]
  · rw [zcp_out (Or.inl (by decide)), e4]
    exact hk.2 j hj
end LIVER
