/-! ===== rises, seen, gives, writes, betrays, witness's first ones ===== -/
section OPD
variable {E : zEv} {D : Nat} {px : String → zM → Prop} {M : zM} {K : zM → Prop}
theorem zc61 : zIsC 61 := ⟨0, by decide, rfl⟩
theorem zc75 : zIsC 75 := ⟨1, by decide, rfl⟩
theorem zc89 : zIsC 89 := ⟨2, by decide, rfl⟩
theorem Rel.nW (h : Rel M) : M.1 62 6 = nI (wN (M.1 1)) := h.now.1.1.trans h.ok.w.1
theorem Rel.nT (h : Rel M) : M.1 61 6 = nI (tN (M.1 1)) := h.now.1.2.1.trans h.ok.t.1
theorem Rel.nQ (h : Rel M) : M.1 61 7 = nI (qN (M.1 1)) := h.now.1.2.2.1.trans h.ok.q.1
theorem Rel.nK (h : Rel M) : M.1 61 8 = nI (kN (M.1 1)) := h.now.1.2.2.2.1.trans h.ok.k.1
theorem Rel.so (h : Rel M) : M.1 61 10 = soF (M.1 1) := h.now.1.2.2.2.2.2.1
theorem Rel.lk (h : Rel M) : lawK (M.1 1) := h.law.k
theorem op_rises {x y : Int32} (h : Rel M) (hK : ∀ M', Rel M' → K M') : zCWi E jL_rises (D + 20) 2 [.ref 19, .int x, .int y, .ref 18] M (opR E jX12_rises (D + 20) [.ref 0, .int x, .int y] K) := by
  have w5 := h.ok.w
  have q8 := h.ok.q
  by_cases cq : zv x (qN (M.1 1))
  · obtain ⟨q, hq, rfl⟩ := cq.get (by omega)
    by_cases cw : zv y (wN (M.1 1))
    · obtain ⟨w, hw, rfl⟩ := cw.get (by omega)
      refine e_L_rises (e_X11_rises (s_X11_needQuestion h.nQ (fun _ => s_X11_needWitness h.nW (fun _ => s_X1_raise zc61 h.now h.ok h.law hq (fun M5 h5 b5 => ⟨pk_in w _ (by omega), fun M4 e4 px => ?_⟩)) (fun z => absurd cw z)) (fun z => absurd cq z)))
      rw [nI_clamp (by omega), (h5 w hw).2.2, h.so, n0] at e4
      subst e4
      have e1 := bl_w4 (x := (riseF (M.1 1) (sdF (M.1 1) q) w).toInt64) b5.pi
      refine e_X12_rises (fun M1 em => ?_)
      subst em
      refine s_X12_noQuestion (n := qN (M.1 1)) (by rw [e1]; exact q8.1) (by omega) (fun _ => z0B (s_X12_noWitness (n := wN (M.1 1)) (by rw [e1]; exact w5.1) (by omega) (fun _ => z0A (t_X12_rises_27 (s_throws0 (z0A (s_X12_risesBy e1 h.ok h.lk (by omega) hw (fun M2 r2 => t_X12_rises_44 ?_)))))) (fun z => absurd cw z))) (fun z => absurd cq z)
      exact ok_fin h hK b5.pi (ro.rk r2) rfl
    · refine e_L_rises (e_X11_rises (s_X11_needQuestion h.nQ (fun _ => s_X11_needWitness h.nW (fun z => absurd z cw) (fun _ => ⟨rfl, fun px => ?_⟩)) (fun z => absurd cq z)))
      exact e_X12_rises (fun M1 e1 => s_X12_noQuestion (n := qN (M.1 1)) (by rw [e1]; exact q8.1) (by omega) (fun _ => z0B (s_X12_noWitness (n := wN (M.1 1)) (by rw [e1]; exact w5.1) (by omega) (fun z => absurd z cw) (fun _ => z1B (t_X12_rises_22 (t_X12_rises_27 (s_throws1 (z1B (t_X12_rises_44 (by rw [e1]; exact bad_end h hK (by decide)))))))))) (fun z => absurd cq z))
  · refine e_L_rises (e_X11_rises (s_X11_needQuestion h.nQ (fun z => absurd z cq) (fun _ => ⟨rfl, fun px => ?_⟩)))
    exact e_X12_rises (fun M1 e1 => s_X12_noQuestion (n := qN (M.1 1)) (by rw [e1]; exact q8.1) (by omega) (fun z => absurd z cq) (fun _ => z1A (t_X12_rises_22 (t_X12_rises_27 (s_throws1 (z1B (t_X12_rises_44 (by rw [e1]; exact bad_end h hK (by decide)))))))))
/-! seen -/
noncomputable def senF (f : zRow) (q k : Nat) : Int32 := mskF (fun w => seeF f k w (riseF f (sdF f q) w)) (wN f)
theorem s_X12_seenBy {post : Int32 → zM → Prop} {f : zRow} {q k : Nat} (hf : M.1 1 = f) (hk : okF f) (hL : lawK f) (hq : q < 8) (hkk : k < kN f) (hp : ∀ M', rk M' M → post (senF f q k) M') : zCi E jX12_seenBy (D + 8) 0 [.ref 0, .int (nI q), .int (nI k)] M post px := by
  have w5 := hk.w
  refine e_X12_seenBy (s_X12_saidBy (by rw [hf]; exact hk) hq (s_X12_lays hf hk hL (fun M1 h9 r1 => ?_)))
  rw [hf] at h9
  have hm : M1.1 1 = f := by rw [r1.w, hf]
  refine zup_loop (fun i => w_X12_seenBy_14 E (D + 7) post px (nI k) (mskF (fun w => seeF f k w (riseF f (sdF f q) w)) i) (nI i) M1) (wN f) (fun i hi ih => ?_) ?_ 0 (by omega)
  · refine t_X12_seenBy_14 (e_X12_witnesses (pk_le (wN f) i (fun z => absurd z (by omega)) (fun _ => ⟨pk_in i _ (by omega), ?_⟩) (by rw [hm]; exact w5.1)))
    rw [nI_clamp (by omega), h9 i hi]
    refine s_X12_wouldSee hm hk hkk (by omega) (fun z => z1B (t_X12_seenBy_49 ?_)) (fun z => z0A (t_X12_seenBy_49 ?_))
    · rw [nI_1, msk_y (p := fun w => seeF f k w (riseF f (sdF f q) w)) z]; exact ih
    · rw [nI_1, msk_0 (p := fun w => seeF f k w (riseF f (sdF f q) w)) z]; exact ih
  · exact t_X12_seenBy_14 (e_X12_witnesses (pk_le (wN f) (wN f) (fun _ => hp M1 r1) (fun z => absurd z (by omega)) (by rw [hm]; exact w5.1)))
theorem op_seen {x y : Int32} (h : Rel M) (hK : ∀ M', Rel M' → K M') : zCWi E jL_seen (D + 20) 2 [.ref 19, .int x, .int y, .ref 18] M (opR E jX12_seen (D + 20) [.ref 0, .int x, .int y] K) := by
  have w5 := h.ok.w
  have q8 := h.ok.q
  have k4 := h.ok.k
  by_cases cq : zv x (qN (M.1 1))
  · obtain ⟨q, hq, rfl⟩ := cq.get (by omega)
    by_cases cw : zv y (kN (M.1 1))
    · obtain ⟨k, hkk, rfl⟩ := cw.get (by omega)
      refine e_L_seen (e_X11_seen (s_X11_needQuestion h.nQ (fun _ => s_X11_needWoman h.nK (fun _ => s_X1_raise zc61 h.now h.ok h.law hq (fun M5 h5 b5 => ?_)) (fun z => absurd cw z)) (fun z => absurd cq z)))
      have cr := cR_bl zc61 b5 h.ok h.now
      have h47 : ∀ w, w < wN (M.1 1) → M5.1 47 w = riseF (M.1 1) (sdF (M.1 1) q) w := fun w hw => by rw [(h5 w hw).2.2, h.so]
      refine zup_loop (fun i => w_X11_seen_34 E (D + 18) (fun r3 M1 => ∀ M4 : zM, M4 = zupL M1 18 (0 : Int32).toNatClampNeg r3.toInt64 → opR E jX12_seen (D + 20) [.ref 0, .int (nI q), .int (nI k)] K 0 M4) (fun X M9 => X = "java/lang/IndexOutOfBoundsException" ∧ opR E jX12_seen (D + 20) [.ref 0, .int (nI q), .int (nI k)] K 1 M9) (nI k) (mskF (fun w => seeF (M.1 1) k w (riseF (M.1 1) (sdF (M.1 1) q) w)) i) (nI i) M5) (wN (M.1 1)) (fun i hi ih => ?_) ?_ 0 (by omega)
      · refine t_X11_seen_34 (pk_le (wN (M.1 1)) i (fun z => absurd z (by omega)) (fun _ => s_X1_isSeen zc61 cr h.ok hkk hi (fun z => z1B (t_X11_seen_73 ?_)) (fun z => z0A (t_X11_seen_73 ?_))) (cr.1.1.trans w5.1))
        · rw [h47 i hi] at z
          rw [nI_1, msk_y (p := fun w => seeF (M.1 1) k w (riseF (M.1 1) (sdF (M.1 1) q) w)) z]; exact ih
        · rw [h47 i hi] at z
          rw [nI_1, msk_n (p := fun w => seeF (M.1 1) k w (riseF (M.1 1) (sdF (M.1 1) q) w)) z]; exact ih
      · refine t_X11_seen_34 (pk_le (wN (M.1 1)) (wN (M.1 1)) (fun _ M4 e4 px => ?_) (fun z => absurd z (by omega)) (cr.1.1.trans w5.1))
        rw [n0] at e4
        subst e4
        have e1 := bl_w4 (x := (mskF (fun w => seeF (M.1 1) k w (riseF (M.1 1) (sdF (M.1 1) q) w)) (wN (M.1 1))).toInt64) b5.pi
        refine e_X12_seen (fun M1 em => ?_)
        subst em
        refine s_X12_noQuestion (n := qN (M.1 1)) (by rw [e1]; exact q8.1) (by omega) (fun _ => z0B (s_X12_noWoman (n := kN (M.1 1)) (by rw [e1]; exact k4.1) (by omega) (fun _ => z0A (t_X12_seen_27 (s_throws0 (z0A (s_X12_seenBy e1 h.ok h.lk (by omega) hkk (fun M2 r2 => t_X12_seen_44 ?_)))))) (fun z => absurd cw z))) (fun z => absurd cq z)
        exact ok_fin h hK b5.pi (ro.rk r2) rfl
    · refine e_L_seen (e_X11_seen (s_X11_needQuestion h.nQ (fun _ => s_X11_needWoman h.nK (fun z => absurd z cw) (fun _ => ⟨rfl, fun px => ?_⟩)) (fun z => absurd cq z)))
      exact e_X12_seen (fun M1 e1 => s_X12_noQuestion (n := qN (M.1 1)) (by rw [e1]; exact q8.1) (by omega) (fun _ => z0B (s_X12_noWoman (n := kN (M.1 1)) (by rw [e1]; exact k4.1) (by omega) (fun z => absurd z cw) (fun _ => z1B (t_X12_seen_22 (t_X12_seen_27 (s_throws1 (z1B (t_X12_seen_44 (by rw [e1]; exact bad_end h hK (by decide)))))))))) (fun z => absurd cq z))
  · refine e_L_seen (e_X11_seen (s_X11_needQuestion h.nQ (fun z => absurd z cq) (fun _ => ⟨rfl, fun px => ?_⟩)))
    exact e_X12_seen (fun M1 e1 => s_X12_noQuestion (n := qN (M.1 1)) (by rw [e1]; exact q8.1) (by omega) (fun z => absurd z cq) (fun _ => z1A (t_X12_seen_22 (t_X12_seen_27 (s_throws1 (z1B (t_X12_seen_44 (by rw [e1]; exact bad_end h hK (by decide)))))))))
/-! gives -/
def givF (f : zRow) (said : Int32) (w : Nat) : Prop := ¬ riseF f said w ≤ 0 ∧ wtF f w said = 0
theorem s_X1_givesAway {post : Int32 → zM → Prop} {f : zRow} {said : Int32} {w : Nat} (hw : w < 5) (h47 : M.1 47 w = riseF f said w) (h44 : M.1 44 w = wtF f w said) (h1 : givF f said w → post 1 M) (h0 : ¬ givF f said w → post 0 M) : zCi E jX1_givesAway D 0 [.ref 43, .int (nI w)] M post px := by
  refine e_X1_givesAway ?_
  rw [nI_clamp (by omega), h47, h44]
  exact ⟨pk_in w _ hw, fun z => t_X1_givesAway_22 (t_X1_givesAway_23 ⟨Or.inl rfl, h0 (fun q => q.1 z)⟩), fun z => ⟨pk_in w _ hw, fun z2 => t_X1_givesAway_22 (t_X1_givesAway_23 ⟨Or.inl rfl, h0 (fun q => z2 q.2)⟩), fun z2 => t_X1_givesAway_23 ⟨Or.inr rfl, h1 ⟨z, z2⟩⟩⟩⟩
theorem s_X12_givenAway {post : Int32 → zM → Prop} {f : zRow} {q : Nat} (hf : M.1 1 = f) (hk : okF f) (hL : lawK f) (hq : q < 8) (hp : ∀ M', rk M' M → post (mskF (givF f (sdF f q)) (wN f)) M') : zCi E jX12_givenAway (D + 8) 0 [.ref 0, .int (nI q)] M post px := by
  have w5 := hk.w
  refine e_X12_givenAway (s_X12_saidBy (by rw [hf]; exact hk) hq (s_X12_lays hf hk hL (fun M1 h9 r1 => ?_)))
  rw [hf] at h9
  have hm : M1.1 1 = f := by rw [r1.w, hf]
  refine zup_loop (fun i => w_X12_givenAway_13 E (D + 7) post px (nI q) (mskF (givF f (sdF f q)) i) (nI i) M1) (wN f) (fun i hi ih => ?_) ?_ 0 (by omega)
  · refine t_X12_givenAway_13 (e_X12_witnesses (pk_le (wN f) i (fun z => absurd z (by omega)) (fun _ => ⟨pk_in i _ (by omega), ?_⟩) (by rw [hm]; exact w5.1)))
    rw [nI_clamp (by omega), h9 i hi]
    refine ⟨fun z => t_X12_givenAway_50 (t_X12_givenAway_51 ?_), fun z => s_X12_saidBy (by rw [hm]; exact hk) hq (s_X12_weightOn (by rw [hm]; exact hk) ?_)⟩
    · rw [nI_1, msk_0 (p := givF f (sdF f q)) (fun y => y.1 z)]; exact ih
    · rw [hm]
      refine ⟨fun z2 => t_X12_givenAway_50 (t_X12_givenAway_51 ?_), fun z2 => t_X12_givenAway_51 ?_⟩
      · rw [nI_1, msk_0 (p := givF f (sdF f q)) (fun y => z2 y.2)]; exact ih
      · rw [nI_1, msk_y (p := givF f (sdF f q)) ⟨z, z2⟩]; exact ih
  · exact t_X12_givenAway_13 (e_X12_witnesses (pk_le (wN f) (wN f) (fun _ => hp M1 r1) (fun z => absurd z (by omega)) (by rw [hm]; exact w5.1)))
theorem op_gives {x : Int32} (h : Rel M) (hK : ∀ M', Rel M' → K M') : zCWi E jL_gives (D + 20) 1 [.ref 19, .int x, .ref 18] M (opR E jX12_gives (D + 20) [.ref 0, .int x] K) := by
  have w5 := h.ok.w
  have q8 := h.ok.q
  refine e_L_gives (e_X11_gives (s_X11_needQuestion h.nQ (fun cq => ?_) (fun cq => ⟨rfl, fun px => ?_⟩)))
  · obtain ⟨q, hq, rfl⟩ := cq.get (by omega)
    refine s_X1_raise zc61 h.now h.ok h.law hq (fun M5 h5 b5 => ?_)
    have cr := cR_bl zc61 b5 h.ok h.now
    rw [h.so] at h5
    refine zup_loop (fun i => w_X11_gives_28 E (D + 18) (fun r3 M1 => ∀ M4 : zM, M4 = zupL M1 18 (0 : Int32).toNatClampNeg r3.toInt64 → opR E jX12_gives (D + 20) [.ref 0, .int (nI q)] K 0 M4) (fun X M9 => X = "java/lang/IndexOutOfBoundsException" ∧ opR E jX12_gives (D + 20) [.ref 0, .int (nI q)] K 1 M9) (mskF (givF (M.1 1) (sdF (M.1 1) q)) i) (nI i) M5) (wN (M.1 1)) (fun i hi ih => ?_) ?_ 0 (by omega)
    · refine t_X11_gives_28 (pk_le (wN (M.1 1)) i (fun z => absurd z (by omega)) (fun _ => s_X1_givesAway (by omega) (h5 i hi).2.2 (h5 i hi).1 (fun z => z1B (t_X11_gives_59 ?_)) (fun z => z0A (t_X11_gives_59 ?_))) (cr.1.1.trans w5.1))
      · rw [nI_1, msk_y (p := givF (M.1 1) (sdF (M.1 1) q)) z]; exact ih
      · rw [nI_1, msk_n (p := givF (M.1 1) (sdF (M.1 1) q)) z]; exact ih
    · refine t_X11_gives_28 (pk_le (wN (M.1 1)) (wN (M.1 1)) (fun _ M4 e4 px => ?_) (fun z => absurd z (by omega)) (cr.1.1.trans w5.1))
      rw [n0] at e4
      subst e4
      have e1 := bl_w4 (x := (mskF (givF (M.1 1) (sdF (M.1 1) q)) (wN (M.1 1))).toInt64) b5.pi
      refine e_X12_gives (fun M1 em => ?_)
      subst em
      refine s_X12_noQuestion (n := qN (M.1 1)) (by rw [e1]; exact q8.1) (by omega) (fun _ => s_throws0 (z0A (s_X12_givenAway e1 h.ok h.lk (by omega) (fun M2 r2 => t_X12_gives_27 ?_)))) (fun z => absurd cq z)
      exact ok_fin h hK b5.pi (ro.rk r2) rfl
  · exact e_X12_gives (fun M1 e1 => s_X12_noQuestion (n := qN (M.1 1)) (by rw [e1]; exact q8.1) (by omega) (fun z => absurd z cq) (fun _ => s_throws1 (z1B (t_X12_gives_27 (by rw [e1]; exact bad_end h hK (by decide))))))
/-! writes -/
theorem op_writes {x y : Int32} (h : Rel M) (hK : ∀ M', Rel M' → K M') : zCWi E jL_writes (D + 20) 2 [.ref 19, .int x, .int y, .ref 18] M (opR E jX12_writes (D + 20) [.ref 0, .int x, .int y] K) := by
  have w5 := h.ok.w
  have k4 := h.ok.k
  by_cases cq : zv x (kN (M.1 1))
  · obtain ⟨k, hkk, rfl⟩ := cq.get (by omega)
    by_cases cw : zv y (wN (M.1 1))
    · obtain ⟨w, hw, rfl⟩ := cw.get (by omega)
      obtain ⟨s, s1, s2, s3⟩ := h.ok.sh hkk
      have c1 : M.1 74 k = nI s := (h.now.2.2.2.2.1 k hkk).trans s3
      have c2 : M.1 66 w = M.1 1 (29 + 5 * w + 3) := (h.wit hw).2.2.2.1
      refine e_L_writes (e_X11_writes (s_X11_needWoman h.nK (fun _ => s_X11_needWitness h.nW (fun _ => ⟨pk_in k _ (by omega), pk_in w _ (by omega), ?_⟩) (fun z => absurd cw z)) (fun z => absurd cq z)))
      rw [nI_clamp (n := k) (by omega), nI_clamp (n := w) (by omega), c1, c2]
      refine s_X11_readBy s1 s2 (fun M4 e4 px => ?_)
      rw [n0] at e4
      subst e4
      have e1 := bl_w4 (M := M) (x := (M.1 1 (29 + 5 * w + 3) / nI s * nI s).toInt64) rfl
      refine e_X12_writes (fun M1 em => ?_)
      subst em
      refine s_X12_noWoman (n := kN (M.1 1)) (by rw [e1]; exact k4.1) (by omega) (fun _ => z0B (s_X12_noWitness (n := wN (M.1 1)) (by rw [e1]; exact w5.1) (by omega) (fun _ => z0A (t_X12_writes_27 (s_throws0 (z0A (s_X12_of (what := 3) (by omega) (s_X12_readBy e1 h.ok hkk (t_X12_writes_49 ?_))))))) (fun z => absurd cw z))) (fun z => absurd cq z)
      exact ok_fin h hK rfl ro.up (by rw [e1]; unfold rdF; rw [s3])
    · refine e_L_writes (e_X11_writes (s_X11_needWoman h.nK (fun _ => s_X11_needWitness h.nW (fun z => absurd z cw) (fun _ => ⟨rfl, fun px => ?_⟩)) (fun z => absurd cq z)))
      exact e_X12_writes (fun M1 e1 => s_X12_noWoman (n := kN (M.1 1)) (by rw [e1]; exact k4.1) (by omega) (fun _ => z0B (s_X12_noWitness (n := wN (M.1 1)) (by rw [e1]; exact w5.1) (by omega) (fun z => absurd z cw) (fun _ => z1B (t_X12_writes_22 (t_X12_writes_27 (s_throws1 (z1B (t_X12_writes_49 (by rw [e1]; exact bad_end h hK (by decide)))))))))) (fun z => absurd cq z))
  · refine e_L_writes (e_X11_writes (s_X11_needWoman h.nK (fun z => absurd z cq) (fun _ => ⟨rfl, fun px => ?_⟩)))
    exact e_X12_writes (fun M1 e1 => s_X12_noWoman (n := kN (M.1 1)) (by rw [e1]; exact k4.1) (by omega) (fun z => absurd z cq) (fun _ => z1A (t_X12_writes_22 (t_X12_writes_27 (s_throws1 (z1B (t_X12_writes_49 (by rw [e1]; exact bad_end h hK (by decide)))))))))
end OPD
