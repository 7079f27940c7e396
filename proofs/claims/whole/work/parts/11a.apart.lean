/-! ===== shared, apart, row ===== -/
noncomputable def cN (p : Nat → Prop) : Nat → Nat
  | 0 => 0
  | i + 1 => cN p i + @ite _ (p i) (Classical.propDecidable _) 1 0
theorem cN_I (p : Nat → Prop) : ∀ n, cntI p n = nI (cN p n)
  | 0 => rfl
  | n + 1 => by
    rw [cN]
    by_cases c : p n
    · rw [← cnt_y c, if_pos c, cN_I p n, nI_1]
    · rw [← cnt_n c, if_neg c, cN_I p n]; rfl
theorem cN_le (p : Nat → Prop) : ∀ n, cN p n ≤ n
  | 0 => Nat.le_refl 0
  | n + 1 => by
    have := cN_le p n
    rw [cN]
    by_cases c : p n
    · rw [if_pos c]; omega
    · rw [if_neg c]; omega
theorem cN_c {p q : Nat → Prop} : ∀ {n : Nat}, (∀ k, k < n → (p k ↔ q k)) → cN p n = cN q n
  | 0, _ => rfl
  | n + 1, h => by rw [cN, cN, cN_c (fun k hk => h k (by omega)), propext (h n (by omega))]
def smN (g : Nat → Nat) : Nat → Nat
  | 0 => 0
  | n + 1 => smN g n + g n
theorem smN_c {g h : Nat → Nat} : ∀ {n : Nat}, (∀ k, k < n → g k = h k) → smN g n = smN h n
  | 0, _ => rfl
  | n + 1, e => by rw [smN, smN, smN_c (fun k hk => e k (by omega)), e n (by omega)]
theorem smN_le {g : Nat → Nat} {b : Nat} : ∀ {n : Nat}, (∀ k, k < n → g k ≤ b) → smN g n ≤ n * b
  | 0, _ => Nat.zero_le _
  | n + 1, h => by
    have := smN_le (g := g) (b := b) (n := n) (fun k hk => h k (by omega))
    have := h n (by omega)
    rw [smN, Nat.succ_mul]
    omega
/-- how many are shared in a row; how many changes lead to it -/
noncomputable def shN (T : Nat → Prop) (n : Nat) (r : Nat → Nat) : Nat := cN (fun k => ¬ (T (r k) ↔ T (r (k + 1)))) (n - 1)
noncomputable def chgN (f : zRow) (n : Nat) (r : Nat → Nat) : Nat := smN (fun a => cN (fun j => ¬ plc f (r a) ≤ plc f (r (a + 1 + j))) (n - (a + 1))) n
abbrev TqF (f : zRow) (q : Nat) : Nat → Prop := fun w => ¬ wtF f w (sdF f q) ≤ 0
section SHARED
variable {E : zEv} {D : Nat} {px : String → zM → Prop} {M : zM} {K : zM → Prop} {f : zRow}
theorem s_X11_touchedBy {post : Int32 → zM → Prop} {q : Nat} (hr : cR M 61 f) (hk : okF f) (hq : q < qN f) (hp : post (mskF (TqF f q) (wN f)) M) : zCi E jX11_touchedBy (D + 1) 0 [.ref 19, .int (nI q)] M post px := by
  have w5 := hk.w
  have hn : M.1 62 6 = nI (wN f) := hr.1.1.trans w5.1
  refine e_X11_touchedBy (zup_loop (fun i => w_X11_touchedBy_4 E D post px (nI q) (mskF (TqF f q) i) (nI i) M) (wN f) (fun i hi ih => ?_) ?_ 0 (by omega))
  · refine t_X11_touchedBy_4 (pk_le (wN f) i (fun z => absurd z (by omega)) (fun _ => s_X3_weighs zc61 hr hk hq ?_) hn)
    rw [hr.1.2.2.2.2.2.1]
    refine ⟨fun z => t_X11_touchedBy_43 ?_, fun z => t_X11_touchedBy_43 ?_⟩
    · rw [nI_1, msk_n (p := TqF f q) (fun y => y z)]; exact ih
    · rw [nI_1, msk_y (p := TqF f q) z]; exact ih
  · exact t_X11_touchedBy_4 (pk_le (wN f) (wN f) (fun _ => hp) (fun z => absurd z (by omega)) hn)
theorem msk_b {T : Nat → Prop} {n k : Nat} (hn : n ≤ 5) (hk : k < n) : (mskF T n >>> (nI k &&& 31)) &&& 1 = bI (T k) := by
  rw [and1, bt_shr (by omega) (by omega), Nat.add_zero]
  by_cases c : T k
  · rw [bI_t c, (bt_msk (by omega)).mpr ⟨hk, c⟩]; rfl
  · rw [bI_f c, show bt (mskF T n) k = false from Bool.eq_false_iff.mpr (fun z => c ((bt_msk (by omega)).mp z).2)]; rfl
theorem bI_eq {p q : Prop} : bI p = bI q ↔ (p ↔ q) := by
  constructor
  · intro h
    by_cases c : p
    · exact ⟨fun _ => bI_n0.mp (by rw [← h, bI_t c]; decide), fun _ => c⟩
    · exact ⟨fun z => absurd z c, fun z => absurd (by rw [h, bI_t z]; decide : ¬ bI p = 0) (by rw [bI_f c]; simp)⟩
  · exact bI_c
theorem s_X0_sharedIn {post : Int32 → zM → Prop} {a nn n : Nat} {T : Nat → Prop} {r : Nat → Nat} (ha : zShape[a]? = some (.inr (0, nn))) (hnn : nn = 5) (hn : n ≤ 5) (hr : ∀ k, k < n → M.1 a k = nI (r k) ∧ r k < n) (hp : post (nI (shN T n r)) M) : zCi E jX0_sharedIn D 0 [.ref a, .int (nI n), .int (mskF T n)] M post px := by
  subst hnn
  have key := zup_loop (fun i => w_X0_sharedIn_5 E D post px a 5 (nI n) (mskF T n) (cntI (fun k => ¬ (T (r k) ↔ T (r (k + 1)))) i) (nI (i + 1)) M) (n - 1) (fun i hi ih => ?_) ?_ 0 (by omega)
  · exact e_X0_sharedIn ha key
  · refine t_X0_sharedIn_5 ha (pk_le n (i + 1) (fun z => absurd z (by omega)) (fun _ => ?_))
    rw [nI_pred, nI_clamp (n := i) (by omega), nI_clamp (n := i + 1) (by omega), (hr i (by omega)).1, (hr (i + 1) (by omega)).1, msk_b hn (hr i (by omega)).2, msk_b hn (hr (i + 1) (by omega)).2]
    refine ⟨pk_in i _ (by omega), pk_in _ _ (show i + 1 < 5 by omega), fun z => t_X0_sharedIn_35 ha ?_, fun z => t_X0_sharedIn_35 ha ?_⟩
    · rw [nI_1, cnt_n (p := fun k => ¬ (T (r k) ↔ T (r (k + 1)))) (fun q => q (bI_eq.mp z))]; exact ih
    · rw [nI_1, cnt_y (p := fun k => ¬ (T (r k) ↔ T (r (k + 1)))) (fun q => z (bI_eq.mpr q))]; exact ih
  · refine t_X0_sharedIn_5 ha (pk_le n (n - 1 + 1) (fun _ => ?_) (fun z => absurd z (by omega)))
    rw [cN_I]
    exact hp
theorem s_X12_sharedIn {post : Int32 → zM → Prop} {q : Nat} {r : Nat → Nat} (hf : M.1 1 = f) (hk : okF f) (hq : q < 8) (hr : ∀ k, k < wN f → M.1 14 k = nI (r k)) (hp : post (nI (shN (TqF f q) (wN f) r)) M) : zCi E jX12_sharedIn (D + 5) 0 [.ref 0, .int (nI q)] M post px := by
  have w5 := hk.w
  have key := zup_loop (fun i => w_X12_sharedIn_4 E (D + 4) post px (nI q) (cntI (fun k => ¬ (TqF f q (r k) ↔ TqF f q (r (k + 1)))) i) (nI (i + 1)) M) (wN f - 1) (fun i hi ih => ?_) ?_ 0 (by omega)
  · exact e_X12_sharedIn key
  · refine t_X12_sharedIn_4 (e_X12_witnesses (pk_le (wN f) (i + 1) (fun z => absurd z (by omega)) (fun _ => ⟨pk_in _ _ (show i + 1 < 5 by omega), ?_⟩) (by rw [hf]; exact w5.1)))
    rw [nI_pred, nI_clamp (n := i) (by omega), nI_clamp (n := i + 1) (by omega), hr (i + 1) (by omega)]
    have h45 : ∀ v, cntI (fun k => ¬ (TqF f q (r k) ↔ TqF f q (r (k + 1)))) i + v = cntI (fun k => ¬ (TqF f q (r k) ↔ TqF f q (r (k + 1)))) (i + 1) → w_X12_sharedIn_45 E (D + 4) post px (nI q) (nI (i + 1)) v (cntI (fun k => ¬ (TqF f q (r k) ↔ TqF f q (r (k + 1)))) i) M := fun v hv => t_X12_sharedIn_45 (by
      rw [nI_1, hv]
      exact ih)
    have in1 : vp_in (nI i) 5 := pk_in i _ (by omega)
    have y : ∀ z : ¬ (TqF f q (r i) ↔ TqF f q (r (i + 1))), w_X12_sharedIn_45 E (D + 4) post px (nI q) (nI (i + 1)) 1 (cntI (fun k => ¬ (TqF f q (r k) ↔ TqF f q (r (k + 1)))) i) M := fun z => h45 1 (cnt_y (p := fun k => ¬ (TqF f q (r k) ↔ TqF f q (r (k + 1)))) z)
    have nn : ∀ z : (TqF f q (r i) ↔ TqF f q (r (i + 1))), w_X12_sharedIn_45 E (D + 4) post px (nI q) (nI (i + 1)) 0 (cntI (fun k => ¬ (TqF f q (r k) ↔ TqF f q (r (k + 1)))) i) M := fun z => h45 0 (cnt_0 (p := fun k => ¬ (TqF f q (r k) ↔ TqF f q (r (k + 1)))) (fun y => y z))
    exact s_X12_isTouched hf hk hq (fun t1 => ⟨in1, by rw [hr i (by omega)]; exact s_X12_isTouched hf hk hq (fun t2 => ⟨fun _ => nn ⟨fun _ => t1, fun _ => t2⟩, fun z => absurd rfl z⟩) (fun t2 => ⟨fun z => absurd z (by decide), fun _ => y (fun z => z.mpr t1 t2)⟩)⟩) (fun t1 => ⟨in1, by rw [hr i (by omega)]; exact s_X12_isTouched hf hk hq (fun t2 => ⟨fun z => absurd z (by decide), fun _ => y (fun z => z.mp t2 t1)⟩) (fun t2 => ⟨fun _ => nn ⟨fun z => absurd t2 z, fun z => absurd t1 z⟩, fun z => absurd rfl z⟩)⟩)
  · refine t_X12_sharedIn_4 (e_X12_witnesses (pk_le (wN f) (wN f - 1 + 1) (fun _ => ?_) (fun z => absurd z (by omega)) (by rw [hf]; exact w5.1)))
    rw [cN_I]
    exact hp
/-- nothing but the reference's row, best has changed -/
def r45 (M' M : zM) : Prop := (∀ o, o ≠ 14 → o ≠ 15 → M'.1 o = M.1 o) ∧ M'.2 = M.2
theorem r45.refl {M : zM} : r45 M M := ⟨fun _ _ _ => rfl, rfl⟩
theorem r45.trans {M1 M2 M3 : zM} (h : r45 M1 M2) (h2 : r45 M2 M3) : r45 M1 M3 := ⟨fun o a b => (h.1 o a b).trans (h2.1 o a b), h.2.trans h2.2⟩
theorem r45.up14 {M : zM} {j : Nat} {v : Int32} : r45 (zup M 14 j v) M := ⟨fun _ h _ => zup_o h, rfl⟩
theorem r45.up15 {M : zM} {j : Nat} {v : Int32} : r45 (zup M 15 j v) M := ⟨fun _ _ h => zup_o h, rfl⟩
theorem r45.w {M' M : zM} (h : r45 M' M) : M'.1 1 = M.1 1 := h.1 1 (by decide) (by decide)
theorem r45.ro {M2 M : zM} (h : r45 M2 (zup M 0 0 0)) : ro M2 M := ⟨by rw [h.1 0 (by decide) (by decide)]; exact zup_s, h.2, Eq.trans (zpi_of fun o j hi => ⟨by
  rw [h.1 o (by rintro rfl; cases hi) (by rintro rfl; cases hi)], by rw [h.2]⟩) (zpi_up rfl)⟩
theorem op_shared {x : Int32} (h : Rel M) (hK : ∀ M', Rel M' → K M') : zCWi E jL_shared (D + 20) 1 [.ref 19, .int x, .ref 18] M (opR E jX12_shared (D + 20) [.ref 0, .int x] K) := by
  have q8 := h.ok.q
  have w5 := h.ok.w
  refine e_L_shared (e_X11_shared (s_X11_needQuestion h.nQ (fun c => ?_) (fun c => ⟨rfl, fun px => ?_⟩)))
  · obtain ⟨q, hq, rfl⟩ := c.get (by omega)
    refine s_X11_touchedBy h.now h.ok hq ?_
    rw [h.nW]
    refine s_X0_sharedIn (r := fun k => rw_ (M.1 1) k) (a := 68) (nn := 5) rfl rfl w5.2 (fun k hk => ⟨(h.wit hk).2.2.2.2.2.trans (h.ok.rwE hk).1, (h.ok.rwE hk).2.1⟩) (fun M4 e4 px => ?_)
    rw [n0] at e4
    subst e4
    have e1 := bl_w4 (M := M) (x := (nI (shN (TqF (M.1 1) q) (wN (M.1 1)) (fun k => rw_ (M.1 1) k))).toInt64) rfl
    refine e_X12_shared (fun M1 em => ?_)
    subst em
    refine s_X12_noQuestion (n := qN (M.1 1)) (by rw [e1]; exact q8.1) (by omega) (fun _ => s_throws0 (z0A (e_X12_laysRow ?_))) (fun z => absurd c z)
    generalize hM0 : zup (zupL M 18 0 (nI (shN (TqF (M.1 1) q) (wN (M.1 1)) (fun k => rw_ (M.1 1) k))).toInt64) 0 0 0 = M0 at *
    refine zup_loop (fun i => ∀ M', r45 M' M0 → (∀ k, k < i → M'.1 14 k = nI (rw_ (M.1 1) k)) → w_X12_laysRow_2 E (D + 18) (fun M12 => zCi E jX12_sharedIn (D + 19) 0 [.ref 0, .int (nI q)] M12 (fun r16 M14 => M14.1 0 0 = 0 ∧ ((0 : Int32) = 0 → M14.2 18 0 = r16.toInt64) ∧ K M14) px) px (nI i) M') (wN (M.1 1)) (fun i hi ih M' hr h14 => ?_) (fun M' hr h14 => ?_) 0 (by omega) M0 r45.refl (fun k hk => absurd hk (by omega))
    · have hm : M'.1 1 = M.1 1 := by rw [hr.w, e1]
      refine t_X12_laysRow_2 (e_X12_witnesses (pk_le (wN (M.1 1)) i (fun z => absurd z (by omega)) (fun _ => ?_) (by rw [hm]; exact w5.1)))
      rw [show (24 : Int32) + nI i = nI (24 + i) from nI_add 24 i, nI_clamp (n := 24 + i) (by omega), nI_clamp (n := i) (by omega), hm, (h.ok.rwE hi).1]
      refine ⟨pk_in _ _ (show 24 + i < 2070 by omega), pk_in i _ (by omega), fun M11 e11 => ?_⟩
      rw [nI_1]
      refine ih M11 (by rw [e11]; exact r45.up14.trans hr) (fun k hk => ?_)
      by_cases ck : k = i
      · rw [ck, e11, zup_s]
      · rw [e11, zup_n (Or.inr ck)]; exact h14 k (by omega)
    · have hm : M'.1 1 = M.1 1 := by rw [hr.w, e1]
      refine t_X12_laysRow_2 (e_X12_witnesses (pk_le (wN (M.1 1)) (wN (M.1 1)) (fun _ => s_X12_sharedIn (r := fun k => rw_ (M.1 1) k) hm h.ok (by omega) h14 ?_) (fun z => absurd z (by omega)) (by rw [hm]; exact w5.1)))
      rw [← hM0] at hr
      exact ok_fin h hK rfl hr.ro rfl
  · exact e_X12_shared (fun M1 e1 => s_X12_noQuestion (n := qN (M.1 1)) (by rw [e1]; exact q8.1) (by omega) (fun z => absurd z c) (fun _ => s_throws1 (z1B (by rw [e1]; exact bad_end h hK (by decide)))))
end SHARED
