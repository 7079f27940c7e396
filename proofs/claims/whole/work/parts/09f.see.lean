/-! ===== who would be seen ===== -/
def rdF (f : zRow) (k : Nat) (n : Int32) : Int32 := n / f (20 + k) * f (20 + k)
def seeF (f : zRow) (k w : Nat) (r : Int32) : Prop := ¬ rdF f k (zmin 99 (f (29 + 5 * w + 3) + r)) ≤ rdF f k (f (29 + 5 * w + 3))
def fndF (f : zRow) (w : Nat) (r : Int32) : Prop := ∃ k, k < kN f ∧ seeF f k w r
theorem ex_succ {p : Nat → Prop} {i : Nat} : (∃ k, k < i + 1 ∧ p k) ↔ ((∃ k, k < i ∧ p k) ∨ p i) := by
  constructor
  · rintro ⟨k, h1, h2⟩
    by_cases c : k = i
    · exact Or.inr (c ▸ h2)
    · exact Or.inl ⟨k, by omega, h2⟩
  · rintro (⟨k, h1, h2⟩ | h)
    · exact ⟨k, by omega, h2⟩
    · exact ⟨i, by omega, h⟩
theorem okF.sh {f : zRow} (hk : okF f) {k : Nat} (h : k < kN f) : ∃ s, 0 < s ∧ s ≤ 20 ∧ f (20 + k) = nI s := by
  obtain ⟨⟨s, h1, h2⟩, h3⟩ := hk.2.2.2.2 k h
  rw [h2, tn_nI (by omega)] at h3
  exact ⟨s, h3, h1, h2⟩
section SEE
variable {E : zEv} {D : Nat} {px : String → zM → Prop} {M : zM} {f : zRow}
theorem s_X11_readBy {post : Int32 → zM → Prop} {s : Nat} {n : Int32} (h0 : 0 < s) (h1 : s ≤ 20) (hp : post (n / nI s * nI s) M) : zCi E jX11_readBy D 0 [.int (nI s), .int n] M post px := e_X11_readBy ⟨fun _ => ⟨nI_ne0 h0 (by omega), t_X11_readBy_14 hp⟩, fun z => absurd (nI_le (show 1 ≤ s by omega) (by omega)) z⟩
theorem s_X1_isSeen {post : Int32 → zM → Prop} {c k w : Nat} (hc : zIsC c) (hr : cR M c f) (hk : okF f) (hkk : k < kN f) (hw : w < wN f) (h1 : seeF f k w (M.1 47 w) → post 1 M) (h0 : ¬ seeF f k w (M.1 47 w) → post 0 M) : zCi E jX1_isSeen (D + 1) 0 [.ref 43, .ref c, .int (nI k), .int (nI w)] M post px := by
  obtain ⟨s, s1, s2, s3⟩ := hk.sh hkk
  have k4 := hk.k.2
  have w5 := hk.w.2
  refine e_X1_isSeen hc ?_
  rw [nI_clamp (n := k) (by omega), nI_clamp (n := w) (by omega), hr.2.2.2.2.1 k hkk, (hr.2.1 w hw).2.2.2.1, s3]
  unfold seeF rdF at h1 h0
  rw [s3] at h1 h0
  exact ⟨pk_in k _ (by omega), pk_in w _ (by omega), pk_in w _ (by omega), s_X11_readBy s1 s2 (s_X11_readBy s1 s2 ⟨fun z => t_X1_isSeen_53 hc ⟨Or.inl rfl, h0 (fun q => q z)⟩, fun z => t_X1_isSeen_53 hc ⟨Or.inr rfl, h1 z⟩⟩)⟩
theorem s_X1_isFoundOut {post : Int32 → zM → Prop} {c w : Nat} (hc : zIsC c) (hr : cR M c f) (hk : okF f) (hw : w < wN f) (h1 : fndF f w (M.1 47 w) → post 1 M) (h0 : ¬ fndF f w (M.1 47 w) → post 0 M) : zCi E jX1_isFoundOut (D + 2) 0 [.ref 43, .ref c, .int (nI w)] M post px := by
  have k4 := hk.k
  have hn : M.1 c 8 = nI (kN f) := hr.1.2.2.2.1.trans k4.1
  refine e_X1_isFoundOut hc (zup_loop (fun i => (∀ k, k < i → ¬ seeF f k w (M.1 47 w)) → w_X1_isFoundOut_2 E (D + 1) post px c (nI w) (nI i) M) (kN f) (fun i hi ih hno => ?_) (fun hno => ?_) 0 (by omega) (fun k hk' => absurd hk' (by omega)))
  · refine t_X1_isFoundOut_2 hc (pk_le (kN f) i (fun z => absurd z (by omega)) (fun _ => s_X1_isSeen hc hr hk hi hw (fun z => z1B (h1 ⟨i, hi, z⟩)) (fun z => z0A ?_)) hn)
    rw [nI_1]
    refine ih (fun k hk' => ?_)
    by_cases ck : k = i
    · rw [ck]; exact z
    · exact hno k (by omega)
  · exact t_X1_isFoundOut_2 hc (pk_le (kN f) (kN f) (fun _ => h0 (fun ⟨k, q1, q2⟩ => hno k q1 q2)) (fun z => absurd z (by omega)) hn)
theorem s_X12_readBy {post : Int32 → zM → Prop} {k : Nat} {n : Int32} (hf : M.1 1 = f) (hk : okF f) (hkk : k < kN f) (hp : post (rdF f k n) M) : zCi E jX12_readBy D 0 [.ref 0, .int (nI k), .int n] M post px := by
  obtain ⟨s, s1, s2, s3⟩ := hk.sh hkk
  have k4 := hk.k.2
  refine e_X12_readBy ?_
  rw [show (20 : Int32) + nI k = nI (20 + k) from nI_add 20 k, nI_clamp (by omega), hf]
  exact ⟨pk_in _ _ (show 20 + k < 2070 by omega), by rw [s3]; exact nI_ne0 s1 (by omega), pk_in _ _ (show 20 + k < 2070 by omega), hp⟩
theorem s_X12_wouldSee {post : Int32 → zM → Prop} {k w : Nat} {r : Int32} (hf : M.1 1 = f) (hk : okF f) (hkk : k < kN f) (hw : w < 5) (h1 : seeF f k w r → post 1 M) (h0 : ¬ seeF f k w r → post 0 M) : zCi E jX12_wouldSee (D + 2) 0 [.ref 0, .int (nI k), .int (nI w), .int r] M post px := by
  refine e_X12_wouldSee (s_X12_of (what := 3) (by omega) (s_X12_readBy hf hk hkk (s_X12_of (what := 3) (by omega) (s_X12_readBy hf hk hkk ?_))))
  rw [hf]
  exact ⟨fun z => t_X12_wouldSee_37 ⟨Or.inl rfl, h0 (fun q => q z)⟩, fun z => t_X12_wouldSee_37 ⟨Or.inr rfl, h1 z⟩⟩
theorem s_X12_someSees {post : Int32 → zM → Prop} {w : Nat} {r : Int32} (hf : M.1 1 = f) (hk : okF f) (hw : w < 5) (hp : post (bI (fndF f w r)) M) : zCi E jX12_someSees (D + 3) 0 [.ref 0, .int (nI w), .int r] M post px := by
  have k4 := hk.k
  have hn : M.1 1 3 = nI (kN f) := by rw [hf]; exact k4.1
  have h00 : bI (∃ k, k < 0 ∧ seeF f k w r) = 0 := bI_f (fun ⟨k, q1, _⟩ => by omega)
  have key := zup_loop (fun i => w_X12_someSees_5 E (D + 2) post px (nI w) r (bI (∃ k, k < i ∧ seeF f k w r)) (nI i) M) (kN f) (fun i hi ih => ?_) ?_ 0 (by omega)
  · rw [h00] at key
    exact e_X12_someSees key
  · have fin : ∀ v, v = bI (∃ k, k < i + 1 ∧ seeF f k w r) → w_X12_someSees_34 E (D + 2) post px (nI w) r (nI i) v M := fun v hv => t_X12_someSees_34 (by
      rw [nI_1, hv]
      exact ih)
    refine t_X12_someSees_5 (e_X12_women (pk_le (kN f) i (fun z => absurd z (by omega)) (fun _ => ⟨fun z => t_X12_someSees_29 (fin 1 ?_), fun z => s_X12_wouldSee hf hk hi hw (fun q => z1B (t_X12_someSees_29 (fin 1 ?_))) (fun q => z0A (fin 0 ?_))⟩) hn))
    · rw [bI_t (ex_succ.mpr (Or.inl (bI_n0.mp z)))]
    · rw [bI_t (ex_succ.mpr (Or.inr q))]
    · rw [bI_f (fun y => (ex_succ.mp y).elim (bI_0.mp z) q)]
  · exact t_X12_someSees_5 (e_X12_women (pk_le (kN f) (kN f) (fun _ => ⟨bI_01 _, hp⟩) (fun z => absurd z (by omega)) hn))
noncomputable def foutF (f : zRow) (w : Nat) : Int32 := mskF (fun q => fndF f w (riseF f (sdF f q) w)) (qN f)
theorem s_X12_foundOut {post : Int32 → zM → Prop} {w : Nat} (hf : M.1 1 = f) (hk : okF f) (hL : lawK f) (hw : w < wN f) (hp : ∀ M', rk M' M → post (foutF f w) M') : zCi E jX12_foundOut (D + 9) 0 [.ref 0, .int (nI w)] M post px := by
  have q8 := hk.q
  have w5 := hk.w.2
  refine e_X12_foundOut (zup_loop (fun i => ∀ M', rk M' M → w_X12_foundOut_4 E (D + 8) post px (nI w) (mskF (fun q => fndF f w (riseF f (sdF f q) w)) i) (nI i) M') (qN f) (fun i hi ih M' hr => ?_) (fun M' hr => ?_) 0 (by omega) M rk.refl)
  · have hm : M'.1 1 = f := by rw [hr.w, hf]
    refine t_X12_foundOut_4 (e_X12_questions (pk_le (qN f) i (fun z => absurd z (by omega)) (fun _ => s_X12_risesBy hm hk hL (by omega) hw (fun M7 r7 => s_X12_someSees (by rw [r7.w, hm]) hk (by omega) ?_)) (by rw [hm]; exact q8.1)))
    refine ⟨fun z => t_X12_foundOut_34 ?_, fun z => t_X12_foundOut_34 ?_⟩
    · rw [nI_1, msk_0 (p := fun q => fndF f w (riseF f (sdF f q) w)) (bI_0.mp z)]
      exact ih M7 (r7.trans hr)
    · rw [nI_1, msk_y (p := fun q => fndF f w (riseF f (sdF f q) w)) (bI_n0.mp z)]
      exact ih M7 (r7.trans hr)
  · have hm : M'.1 1 = f := by rw [hr.w, hf]
    exact t_X12_foundOut_4 (e_X12_questions (pk_le (qN f) (qN f) (fun _ => hp M' hr) (fun z => absurd z (by omega)) (by rw [hm]; exact q8.1)))
theorem s_X11_foundOut {post : Int32 → zM → Prop} {w : Nat} (hr : cR M 61 f) (hk : okF f) (hL : lawR M 36 f) (hw : w < wN f) (hp : ∀ M', bl M' M → post (foutF f w) M') : zCi E jX11_foundOut (D + 4) 0 [.ref 19, .int (nI w)] M post px := by
  have hc : zIsC 61 := ⟨0, by decide, rfl⟩
  have q8 := hk.q
  refine e_X11_foundOut (zup_loop (fun i => ∀ M', bl M' M → w_X11_foundOut_4 E (D + 3) post px (nI w) (mskF (fun q => fndF f w (riseF f (sdF f q) w)) i) (nI i) M') (qN f) (fun i hi ih M' hb => ?_) (fun M' hb => ?_) 0 (by omega) M bl.refl)
  · have cr := cR_bl hc hb hk hr
    refine t_X11_foundOut_4 (pk_le (qN f) i (fun z => absurd z (by omega)) (fun _ => s_X1_raise hc cr hk (lawR_bl hb hL) hi (fun M4 h4 b4 => ?_)) (cr.1.2.2.1.trans q8.1))
    have e47 : M4.1 47 w = riseF f (sdF f i) w := by rw [(h4 w hw).2.2, cr.1.2.2.2.2.2.1]
    refine s_X1_isFoundOut hc (cR_bl hc b4 hk cr) hk hw (fun z => z1B (t_X11_foundOut_55 ?_)) (fun z => z0A (t_X11_foundOut_55 ?_))
    · rw [e47] at z
      rw [nI_1, msk_y (p := fun q => fndF f w (riseF f (sdF f q) w)) z]
      exact ih M4 (b4.trans hb)
    · rw [e47] at z
      rw [nI_1, msk_n (p := fun q => fndF f w (riseF f (sdF f q) w)) z]
      exact ih M4 (b4.trans hb)
  · have cr := cR_bl hc hb hk hr
    exact t_X11_foundOut_4 (pk_le (qN f) (qN f) (fun _ => hp M' hb) (fun z => absurd z (by omega)) (cr.1.2.2.1.trans q8.1))
end SEE
/-! ===== a call that only asks: both sides ===== -/
/-- the reference has only asked -/
def ro (M2 M4 : zM) : Prop := M2.1 0 0 = 0 ∧ M2.2 = M4.2 ∧ zpi M2 = zpi M4
theorem ro.up {M : zM} : ro (zup M 0 0 0) M := ⟨zup_s, rfl, zpi_up rfl⟩
theorem ro.rk {M2 M : zM} (h : rk M2 (zup M 0 0 0)) : ro M2 M := ⟨by rw [h.1 0 (by decide) (by decide)]; exact zup_s, h.2, h.pi.trans (zpi_up rfl)⟩
theorem ro.rv {M2 M : zM} (h : rv M2 (zup M 0 0 0)) : ro M2 M := ro.rk h.rk
section FIN
variable {M : zM} {K : zM → Prop}
theorem ok_fin {M1 M2 : zM} {v b : Int32} (h : Rel M) (hK : ∀ M', Rel M' → K M') (e1 : zpi M1 = zpi M) (r : ro M2 (zupL M1 18 0 v.toInt64)) (hb : b = v) : M2.1 0 0 = 0 ∧ ((0 : Int32) = 0 → M2.2 18 0 = b.toInt64) ∧ K M2 :=
  ⟨r.1, fun _ => by rw [r.2.1, zupL_s, hb], hK _ (h.same (r.2.2.trans ((zpi_upL rfl).trans e1)))⟩
theorem ok_finb {M1 M2 : zM} {v : Int64} {b : Int32} (h : Rel M) (hK : ∀ M', Rel M' → K M') (e1 : zpi M1 = zpi M) (r : ro M2 (zupL M1 18 0 v)) (hb : (b = 0 → v = 0) ∧ (¬ b = 0 → v = 1)) : M2.1 0 0 = 0 ∧ ((0 : Int32) = 0 → (b = 0 → M2.2 18 0 = 0) ∧ (¬ b = 0 → M2.2 18 0 = 1)) ∧ K M2 :=
  ⟨r.1, fun _ => by rw [r.2.1, zupL_s]; exact hb, hK _ (h.same (r.2.2.trans ((zpi_upL rfl).trans e1)))⟩
theorem n_fin {M1 M2 : zM} {a b : Int32} (h : Rel M) (hK : ∀ M', Rel M' → K M') (e1 : zpi M1 = zpi M) (r : ro M2 M1) (hb : a = b) : a = b ∧ K M2 := ⟨hb, hK _ (h.same (r.2.2.trans e1))⟩
theorem bl_w4 {M1 : zM} {x : Int64} (e1 : zpi M1 = zpi M) : (zup (zupL M1 18 0 x) 0 0 0).1 1 = M.1 1 := by
  rw [zup_o (by decide), zupL_I]
  exact zpi_w e1
end FIN
