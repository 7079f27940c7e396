/-! ===== blind; the tape: feed, end ===== -/
theorem bt_msk {p : Nat → Prop} {n i : Nat} (hn : n ≤ 32) : bt (mskF p n) i = true ↔ i < n ∧ p i := by
  unfold mskF
  rw [bt_orI]
  constructor
  · rintro ⟨t, h1, h2⟩
    by_cases c : p t
    · rw [bit_y c, bt_bit (by omega)] at h2
      have : i = t := of_decide_eq_true h2
      subst this
      exact ⟨h1, c⟩
    · rw [bit_n c, bt_0] at h2
      cases h2
  · rintro ⟨h1, h2⟩
    exact ⟨i, h1, by rw [bit_y h2, bt_bit (by omega)]; exact decide_eq_true rfl⟩
theorem msk_zero {p : Nat → Prop} {n : Nat} (hn : n ≤ 32) : mskF p n = 0 ↔ ∀ k, k < n → ¬ p k := by
  constructor
  · intro h k hk hp
    have := (bt_msk (p := p) hn).mpr ⟨hk, hp⟩
    rw [h, bt_0] at this
    cases this
  · intro h
    apply bt_ext
    intro i hi
    rw [bt_0]
    refine Bool.eq_false_iff.mpr (fun z => ?_)
    have := (bt_msk hn).mp z
    exact h i this.1 this.2
theorem orI_zero {g : Nat → Int32} {n : Nat} : orI g n = 0 ↔ ∀ k, k < n → g k = 0 := by
  constructor
  · intro h k hk
    apply bt_ext
    intro i hi
    rw [bt_0]
    refine Bool.eq_false_iff.mpr (fun z => ?_)
    have := (bt_orI g i n).mpr ⟨k, hk, z⟩
    rw [h, bt_0] at this
    cases this
  · intro h
    apply bt_ext
    intro i hi
    rw [bt_0]
    refine Bool.eq_false_iff.mpr (fun z => ?_)
    obtain ⟨k, hk, hz⟩ := (bt_orI g i n).mp z
    rw [h k hk, bt_0] at hz
    cases hz
theorem or_bit {x : Int32} {p : Prop} {k : Nat} : (x ||| bitI p k) ||| (1 <<< (nI k &&& 31)) = x ||| (1 <<< (nI k &&& 31)) := by
  apply bt_ext
  intro i hi
  by_cases c : p
  · rw [bit_y c, bt_or, bt_or, Bool.or_assoc, Bool.or_self]
  · rw [bit_n c, bt_or, bt_or, bt_or, bt_0, Bool.or_false]
section OPK
variable {E : zEv} {D : Nat} {px : String → zM → Prop} {M : zM} {K : zM → Prop} {f : zRow}
theorem s_X1_seeingWomen {post : Int32 → zM → Prop} {c : Nat} (hc : zIsC c) (hr : cR M c f) (hk : okF f) (hp : post (mskF (fun k => ∃ w, w < wN f ∧ seeF f k w (M.1 47 w)) (kN f)) M) : zCi E jX1_seeingWomen (D + 2) 0 [.ref 43, .ref c] M post px := by
  have w5 := hk.w
  have k4 := hk.k
  have hn : M.1 c 8 = nI (kN f) := hr.1.2.2.2.1.trans k4.1
  have hw : M.1 (c + 1) 6 = nI (wN f) := hr.1.1.trans w5.1
  generalize hP : (fun k => ∃ w, w < wN f ∧ seeF f k w (M.1 47 w)) = P at hp
  have ePi : ∀ k, P k ↔ ∃ w, w < wN f ∧ seeF f k w (M.1 47 w) := fun k => by rw [← hP]
  refine e_X1_seeingWomen hc (zup_loop (fun i => w_X1_seeingWomen_4 E (D + 1) post px c (mskF P i) (nI i) M) (kN f) (fun i hi ih => ?_) ?_ 0 (by omega))
  · refine t_X1_seeingWomen_4 hc (pk_le (kN f) i (fun z => absurd z (by omega)) (fun _ => ?_) hn)
    have key := zup_loop (fun j => w_X1_seeingWomen_15 E (D + 1) post px c (mskF P i ||| bitI (∃ w, w < j ∧ seeF f i w (M.1 47 w)) i) (nI i) (nI j) M) (wN f) (fun j hj ihj => ?_) ?_ 0 (by omega)
    · rw [bit_n (fun ⟨w, h1, _⟩ => by omega), Int32.or_zero] at key
      exact key
    · refine t_X1_seeingWomen_15 hc (pk_le (wN f) j (fun z => absurd z (by omega)) (fun _ => s_X1_isSeen hc hr hk hi hj (fun z => z1B (t_X1_seeingWomen_44 hc ?_)) (fun z => z0A (t_X1_seeingWomen_44 hc ?_))) hw)
      · have hex : ∃ w, w < j + 1 ∧ seeF f i w (M.1 47 w) := ⟨j, by omega, z⟩
        rw [nI_1, or_bit, ← bit_y (k := i) hex]
        exact ihj
      · rw [nI_1, show bitI (∃ w, w < j ∧ seeF f i w (M.1 47 w)) i = bitI (∃ w, w < j + 1 ∧ seeF f i w (M.1 47 w)) i by
          rw [show (∃ w, w < j ∧ seeF f i w (M.1 47 w)) = (∃ w, w < j + 1 ∧ seeF f i w (M.1 47 w)) from propext ⟨fun q => ex_succ.mpr (Or.inl q), fun q => (ex_succ.mp q).elim id (fun y => absurd y z)⟩]]
        exact ihj
    · refine t_X1_seeingWomen_15 hc (pk_le (wN f) (wN f) (fun _ => ?_) (fun z => absurd z (by omega)) hw)
      rw [nI_1, show mskF P i ||| bitI (∃ w, w < wN f ∧ seeF f i w (M.1 47 w)) i = mskF P (i + 1) by
        rw [show (∃ w, w < wN f ∧ seeF f i w (M.1 47 w)) = P i from propext (ePi i).symm]
        rfl]
      exact ih
  · exact t_X1_seeingWomen_4 hc (pk_le (kN f) (kN f) (fun _ => hp) (fun z => absurd z (by omega)) hn)
theorem op_blind (h : Rel M) (hK : ∀ M', Rel M' → K M') : zCi E jX11_blind (D + 20) 0 [.ref 19] M (opN E jX12_blind (D + 20) [.ref 0] K) px := by
  have q8 := h.ok.q
  have k4 := h.ok.k
  have w5 := h.ok.w
  generalize hf : M.1 1 = f at *
  generalize hP : (fun q k => ∃ w, w < wN f ∧ seeF f k w (riseF f (sdF f q) w)) = P
  have eP : ∀ q k, P q k ↔ ∃ w, w < wN f ∧ seeF f k w (riseF f (sdF f q) w) := fun q k => by rw [← hP]
  have okf : okF f := hf ▸ h.ok
  have lkf : lawK f := hf ▸ h.lk
  have eqv : ((1 <<< (nI (kN f) &&& 31)) - 1) &&& ((orI (fun q => mskF (P q) (kN f)) (qN f)) ^^^ -1) = mskF (fun k => orI (fun q => senF f q k) (qN f) = 0) (kN f) := by
    apply bt_ext
    intro i hi
    rw [all_nI (by omega), bt_and, bt_xor, bt_m1 hi, bt_nI hi, Nat.testBit_two_pow_sub_one]
    rw [Bool.eq_iff_iff, Bool.and_eq_true, bt_msk (by omega)]
    have o1 := bt_orI (fun q => mskF (P q) (kN f)) i (qN f)
    constructor
    · rintro ⟨h1, h2⟩
      have h1' : i < kN f := of_decide_eq_true h1
      refine ⟨h1', orI_zero.mpr (fun q hq => (msk_zero (by omega)).mpr (fun w hw hs => ?_))⟩
      have : bt (orI (fun q => mskF (P q) (kN f)) (qN f)) i = true := o1.mpr ⟨q, hq, (bt_msk (by omega)).mpr ⟨h1', (eP q i).mpr ⟨w, hw, hs⟩⟩⟩
      rw [this] at h2
      cases h2
    · rintro ⟨h1, h2⟩
      refine ⟨decide_eq_true h1, ?_⟩
      have : bt (orI (fun q => mskF (P q) (kN f)) (qN f)) i = false := Bool.eq_false_iff.mpr (fun z => by
        obtain ⟨q, hq, hz⟩ := o1.mp z
        obtain ⟨w, hw, hs⟩ := (eP q i).mp ((bt_msk (by omega)).mp hz).2
        exact (msk_zero (by omega)).mp (orI_zero.mp h2 q hq) w hw hs)
      rw [this]
      rfl
  have ref : ∀ M1, zpi M1 = zpi M → opN E jX12_blind (D + 20) [.ref 0] K (mskF (fun k => orI (fun q => senF f q k) (qN f) = 0) (kN f)) M1 := fun M1 z1 px => by
    refine e_X12_blind (fun M2 e2 => ?_)
    subst e2
    have e1 : (zup M1 0 0 0).1 1 = f := by rw [zup_o (by decide), zpi_w z1, hf]
    generalize hM0 : zup M1 0 0 0 = M0 at *
    refine zup_loop (fun i => ∀ M', rk M' M0 → w_X12_blind_9 E (D + 19) (fun b M2 => mskF (fun k => orI (fun q => senF f q k) (qN f) = 0) (kN f) = b ∧ K M2) px (mskF (fun k => orI (fun q => senF f q k) (qN f) = 0) i) (nI i) M') (kN f) (fun i hi ih M' hr => ?_) (fun M' hr => ?_) 0 (by omega) M0 rk.refl
    · have hm : M'.1 1 = f := by rw [hr.w, e1]
      refine t_X12_blind_9 (e_X12_women (pk_le (kN f) i (fun z => absurd z (by omega)) (fun _ => ?_) (by rw [hm]; exact k4.1)))
      refine zup_loop (fun j => ∀ M2, rk M2 M0 → w_X12_blind_22 E (D + 19) (fun b M2 => mskF (fun k => orI (fun q => senF f q k) (qN f) = 0) (kN f) = b ∧ K M2) px (mskF (fun k => orI (fun q => senF f q k) (qN f) = 0) i) (nI i) (orI (fun q => senF f q i) j) (nI j) M2) (qN f) (fun j hj ihj M2 r2 => ?_) (fun M2 r2 => ?_) 0 (by omega) M' hr
      · have hm2 : M2.1 1 = f := by rw [r2.w, e1]
        refine t_X12_blind_22 (e_X12_questions (pk_le (qN f) j (fun z => absurd z (by omega)) (fun _ => s_X12_seenBy hm2 okf lkf (by omega) hi (fun M10 r10 => ?_)) (by rw [hm2]; exact q8.1)))
        rw [nI_1, orI_s (g := fun q => senF f q i) (i := j) rfl]
        exact ihj M10 (r10.trans r2)
      · have hm2 : M2.1 1 = f := by rw [r2.w, e1]
        refine t_X12_blind_22 (e_X12_questions (pk_le (qN f) (qN f) (fun _ => ⟨fun z => t_X12_blind_59 ?_, fun z => t_X12_blind_59 ?_⟩) (fun z => absurd z (by omega)) (by rw [hm2]; exact q8.1)))
        · rw [nI_1, msk_0 (p := fun k => orI (fun q => senF f q k) (qN f) = 0) z]; exact ih M2 r2
        · rw [nI_1, msk_y (p := fun k => orI (fun q => senF f q k) (qN f) = 0) z]; exact ih M2 r2
    · have hm : M'.1 1 = f := by rw [hr.w, e1]
      refine t_X12_blind_9 (e_X12_women (pk_le (kN f) (kN f) (fun _ => ?_) (fun z => absurd z (by omega)) (by rw [hm]; exact k4.1)))
      rw [← hM0] at hr
      exact n_fin h hK z1 (ro.rk hr) rfl
  have nK : M.1 61 8 = nI (kN f) := by rw [← hf]; exact h.nK
  have now : cR M 61 f := hf ▸ h.now
  have lw : lawR M 36 f := hf ▸ h.law
  refine e_X11_blind (zup_loop (fun i => ∀ M', bl M' M → w_X11_blind_4 E (D + 19) (opN E jX12_blind (D + 20) [.ref 0] K) px (orI (fun q => mskF (P q) (kN f)) i) (nI i) M') (qN f) (fun i hi ih M' hb => ?_) (fun M' hb => ?_) 0 (by omega) M bl.refl)
  · have cr := cR_bl zc61 hb okf now
    refine t_X11_blind_4 (pk_le (qN f) i (fun z => absurd z (by omega)) (fun _ => s_X1_raise zc61 cr okf (lawR_bl hb lw) hi (fun M4 h4 b4 => ?_)) (cr.1.2.2.1.trans q8.1))
    rw [cr.1.2.2.2.2.2.1] at h4
    refine s_X1_seeingWomen zc61 (cR_bl zc61 b4 okf cr) okf ?_
    rw [show mskF (fun k => ∃ w, w < wN f ∧ seeF f k w (M4.1 47 w)) (kN f) = mskF (P i) (kN f) from msk_c (fun k _ => by
      rw [eP]
      exact exists_congr (fun w => and_congr_right (fun hw => by rw [(h4 w hw).2.2]))), nI_1, orI_s (g := fun q => mskF (P q) (kN f)) (i := i) rfl]
    exact ih M4 (b4.trans hb)
  · have cr := cR_bl zc61 hb okf now
    refine t_X11_blind_4 (pk_le (qN f) (qN f) (fun _ => ?_) (fun z => absurd z (by omega)) (cr.1.2.2.1.trans q8.1))
    rw [cr.1.2.2.2.1, k4.1, eqv]
    exact ref M' hb.pi
/-! the tape -/
/-- the tape and the fault may change -/
theorem Rel.tp {M2 : zM} (h : Rel M) (g : ∀ o j, irr o j = false → o ≠ 21 → o ≠ 6 → ¬ (o = 20 ∧ j = 1) → ¬ (o = 0 ∧ j = 9) → ¬ (o = 19 ∧ j = 11) → ¬ (o = 0 ∧ j = 14) → M2.1 o j = M.1 o j ∧ M2.2 o j = M.2 o j) (ht : tapeR M2) (hw : M2.1 19 11 = M2.1 0 14) : Rel M2 := by
  have w1 : M2.1 1 = M.1 1 := funext fun j => (g 1 j rfl (by decide) (by decide) (by omega) (by omega) (by omega) (by omega)).1
  refine Rel.of ⟨by rw [w1]; exact h.ok, ?_, ?_, ht, hw, ?_, ?_⟩
  · rw [w1]
    exact cR_same (fun o j h1 h2 => g o j (irr_now (by omega) (by omega)) (by omega) (by omega) (by omega) (by omega) (by omega) (by omega)) h.ok h.now
  · exact lawR_same (by rw [w1]) (fun j _ => by rw [w1]) (g 36 6 rfl (by decide) (by decide) (by omega) (by omega) (by omega) (by omega)).1 (fun i j h1 h2 h3 => (g _ j (irr_far (by omega) (by omega) (by omega)) (by omega) (by omega) (by omega) (by omega) (by omega) (by omega)).1) (fun j _ => (g _ j rfl (by decide) (by decide) (by omega) (by omega) (by omega) (by omega)).1) h.law
  · exact imgR_same h.img (g 19 12 rfl (by decide) (by decide) (by omega) (by omega) (by omega) (by omega)).1 (g 0 6 rfl (by decide) (by decide) (by omega) (by omega) (by omega) (by omega)).1 (fun j => (g 2 j rfl (by decide) (by decide) (by omega) (by omega) (by omega) (by omega)).1) (fun o j h1 h2 => g o j (irr_hi (by omega)) (by omega) (by omega) (by omega) (by omega) (by omega) (by omega)) (fun o j h1 h2 => (g o j (irr_far (by omega) (by omega) (by omega)) (by omega) (by omega) (by omega) (by omega) (by omega) (by omega)).1)
  · obtain ⟨n, nx, c1, c2, c3, c4, c5, c6⟩ := h.his
    refine ⟨n, nx, c1, c2, ?_, ?_, ?_, fun k hk => ?_⟩
    · rw [(g 0 7 rfl (by decide) (by decide) (by omega) (by omega) (by omega) (by omega)).1]; exact c3
    · rw [(g 59 1 rfl (by decide) (by decide) (by omega) (by omega) (by omega) (by omega)).1]; exact c4
    · rw [(g 59 2 rfl (by decide) (by decide) (by omega) (by omega) (by omega) (by omega)).1]; exact c5
    · obtain ⟨f1, f2, f3⟩ := c6 k hk
      have hz := zc_lo ((nx + 11 - k) % 12)
      have er : ∀ j, j < 372 → M2.1 5 (372 * (n - 1 - k) + j) = M.1 5 (372 * (n - 1 - k) + j) := fun j _ => (g 5 _ rfl (by decide) (by decide) (by omega) (by omega) (by omega) (by omega)).1
      exact ⟨okF_f er f1, cR_f er f1 (cR_same (fun o j h1 h2 => g o j (irr_hi (by omega)) (by omega) (by omega) (by omega) (by omega) (by omega) (by omega)) f1 f2), by rw [er 5 (by decide), w1]; exact f3⟩
theorem op_end {x : Int32} (h : Rel M) (hK : ∀ M', Rel M' → K M') : zCi E jX11_end (D + 20) 0 [.ref 19, .int x] M (opN E jX12_end (D + 20) [.ref 0, .int x] K) px := by
  obtain ⟨n, hn, t1, t2, t3⟩ := h.tape
  have bad : ¬ zr x 0 n → opN E jX12_end (D + 20) [.ref 0, .int x] K 0 M := fun c px => by
    refine e_X12_end (fun M1 e1 => ?_)
    have e9 : M1.1 0 9 = nI n := by rw [e1, zup_n (Or.inr (by decide))]; exact t2
    rw [e9]
    have f0 : w_X12_end_17 E (D + 20) (fun b M2 => (0 : Int32) = b ∧ K M2) px M1 := t_X12_end_17 ⟨rfl, by rw [e1]; exact hK _ (h.same (zpi_up rfl))⟩
    exact ⟨fun _ => f0, fun z => ⟨fun z2 => absurd ⟨z, z2⟩ c, fun _ => f0⟩⟩
  refine e_X11_end ⟨fun z => t_X11_end_15 (bad (fun q => q.1 z)), fun z => ?_⟩
  rw [t1]
  refine ⟨fun z2 M7 e7 px => ?_, fun z2 => t_X11_end_15 (bad (fun q => z2 q.2))⟩
  obtain ⟨m, -, hm, rfl⟩ := zr.get (x := x) (a := 0) (b := n) ⟨z, z2⟩ (by omega) (by decide)
  refine e_X12_end (fun M1 e1 => ?_)
  have e9 : M1.1 0 9 = nI n := by rw [e1, zup_n (Or.inr (by decide)), e7, zup_o (by decide)]; exact t2
  rw [e9]
  refine ⟨fun q => absurd q z, fun _ => ⟨fun _ M9 e10 => ⟨rfl, hK _ ?_⟩, fun q => absurd z2 q⟩⟩
  refine h.tp (fun o j h1 h2 h3 h4 h5 _ _ => ⟨?_, by rw [e10, zup_L, e1, zup_L, e7, zup_L]⟩) ⟨m, by omega, ?_, ?_, fun j hj => ?_⟩ ?_
  · rw [e10, zup_n (by omega), e1, zup_n (Decidable.or_iff_not_imp_left.mpr (fun a b => by
      rw [show o = 0 by omega, b] at h1
      cases h1)), e7, zup_n (by omega)]
  · rw [e10, zup_o (by decide), e1, zup_o (by decide), e7, zup_s]
  · rw [e10, zup_s]
  · rw [e10, zup_o (by decide), zup_o (by decide), e1, zup_o (by decide), zup_o (by decide), e7, zup_o (by decide), zup_o (by decide)]
    exact t3 j hj
  · rw [e10, zup_o (by decide), zup_n (Or.inr (by decide)), e1, zup_o (by decide), zup_n (Or.inr (by decide)), e7, zup_o (by decide), zup_o (by decide)]
    exact h.wrong
/-! feed -/
def byt (x : Int32) (s : Nat) : Nat := x.toBitVec.toNat / 2 ^ s % 256
theorem byt_u {x : Int32} {s : Nat} (hs : s < 32) : (zushr x (nI s)) &&& 255 = nI (byt x s) := by
  have h1 : ((nI s).toUInt32 &&& Int32.toUInt32 31).toBitVec % 32 = BitVec.ofNat 32 s := by
    have := (by decide +kernel : ∀ j : Fin 32, ((nI j.val).toUInt32 &&& Int32.toUInt32 31).toBitVec % 32 = BitVec.ofNat 32 j.val) ⟨s, hs⟩
    exact this
  have h2 := pk_ushr x (nI s) s (by rw [h1, BitVec.toNat_ofNat]; omega)
  rw [pk_and _ (m := 255) 8 (by decide +kernel), h2]
  rfl
theorem byt_s {x : Int32} {s : Nat} (hs : s ≤ 24) : (x >>> (nI s &&& 31)).toInt8.toInt32 = (nI (byt x s)).toInt8.toInt32 := by
  rw [← byt_u (by omega), fa_byte_low, ← fa_byte_low (x >>> (nI s &&& 31)), ← fa_byte_low (zushr x (nI s))]
  congr 2
  apply bt_ext
  intro i hi
  rw [bt_and, bt_and]
  by_cases c : i < 8
  · congr 1
    rw [bt_shr (by omega) (by omega)]
    have e : (zushr x (nI s)).toBitVec = x.toBitVec >>> s := by
      have h1 : ((nI s).toUInt32 &&& Int32.toUInt32 31).toBitVec % 32 = BitVec.ofNat 32 s := by
        have := (by decide +kernel : ∀ j : Fin 32, ((nI j.val).toUInt32 &&& Int32.toUInt32 31).toBitVec % 32 = BitVec.ofNat 32 j.val) ⟨s, by omega⟩
        exact this
      have h2 : (zushr x (nI s)).toBitVec = x.toBitVec >>> (((nI s).toUInt32 &&& Int32.toUInt32 31).toBitVec % 32) := UInt32.toBitVec_shiftRight _ _
      rw [h2, h1, BitVec.ushiftRight_eq', BitVec.toNat_ofNat, Nat.mod_eq_of_lt (by omega)]
    show _ = (zushr x (nI s)).toBitVec.getLsbD i
    rw [e, BitVec.getLsbD_ushiftRight]
    rfl
  · have : bt 255 i = false := by
      have h := (by decide +kernel : ∀ j : Fin 32, 8 ≤ j.val → bt 255 j.val = false) ⟨i, hi⟩ (show 8 ≤ i by omega)
      exact h
    rw [this, Bool.and_false, Bool.and_false]
/-- the class's tape behind a number -/
theorem s_X9_add {post : zM → Prop} {x : Int32} {n : Nat} (hn : n + 4 ≤ 400) (h1 : M.1 20 1 = nI n) (hp : ∀ M', M'.1 20 1 = nI (n + 4) → (∀ j, M'.1 21 j = if n ≤ j ∧ j < n + 4 then nI (byt x (24 - 8 * (j - n))) else M.1 21 j) → (∀ o j, o ≠ 21 → ¬ (o = 20 ∧ j = 1) → M'.1 o j = M.1 o j) → M'.2 = M.2 → post M') : zCv E jX9_add D 0 [.ref 20, .int x] M post px := by
  have key := zup_loop (fun i => ∀ M', M'.1 20 1 = nI (n + i) → (∀ j, M'.1 21 j = if n ≤ j ∧ j < n + i then nI (byt x (24 - 8 * (j - n))) else M.1 21 j) → (∀ o j, o ≠ 21 → ¬ (o = 20 ∧ j = 1) → M'.1 o j = M.1 o j) → M'.2 = M.2 → w_X9_add_3 E D post px x (24 - 8 * nI i) M') 4 (fun i hi ih M' a1 a2 a3 a4 => ?_) (fun M' a1 a2 a3 a4 => ?_) 0 (by omega) M h1 (fun j => by rw [if_neg (by omega)]) (fun _ _ _ _ => rfl) rfl
  · exact e_X9_add key
  · have es : (24 : Int32) - 8 * nI i = nI (24 - 8 * i) := by rw [show (8 : Int32) = nI 8 from rfl, pk_mul, show (24 : Int32) = nI 24 from rfl, pk_sub (by omega)]
    rw [es]
    refine t_X9_add_3 ⟨fun z => absurd z (nI_pos (by omega)), fun _ => pk_le 400 (n + i) (fun z => absurd z (by omega)) (fun _ => ⟨pk_in (n + i) _ (by omega) a1, fun M9 e9 M11 e11 => ?_⟩) rfl a1⟩
    rw [byt_u (by omega), a1, nI_clamp (by omega)] at e9
    have x1 : M9.1 20 1 = nI (n + i) := by rw [e9, zup_o (by decide)]; exact a1
    rw [x1, nI_1] at e11
    have e8 : nI (24 - 8 * i) + -8 = 24 - 8 * nI (i + 1) := by
      rw [← es]
      have := (by decide +kernel : ∀ j : Fin 4, (24 : Int32) - 8 * nI j.val + -8 = 24 - 8 * nI (j.val + 1)) ⟨i, hi⟩
      exact this
    rw [e8]
    refine ih M11 (by rw [e11, zup_s]; rfl) (fun j => ?_) (fun o j g1 g2 => by rw [e11, zup_n (by omega), e9, zup_o g1]; exact a3 o j g1 g2) (by rw [e11, zup_L, e9, zup_L]; exact a4)
    rw [e11, zup_o (by decide), e9]
    by_cases c : j = n + i
    · rw [c, zup_s, if_pos (by omega), show n + i - n = i by omega]
    · rw [zup_n (Or.inr c), a2 j]
      by_cases c2 : n ≤ j ∧ j < n + i
      · rw [if_pos c2, if_pos (by omega)]
      · rw [if_neg c2, if_neg (by omega)]
  · refine t_X9_add_3 ⟨fun _ => t_X9_add_49 (hp M' a1 a2 a3 a4), fun z => absurd (by decide) z⟩
def fvF (a b c d e : Int32) (k : Nat) : Int32 := if k = 0 then a else if k = 1 then b else if k = 2 then c else if k = 3 then d else e
theorem op_feed {a b c d e : Int32} (h : Rel M) (hK : ∀ M', Rel M' → K M') : zCi E jX11_feed (D + 20) 0 [.ref 19, .int a, .int b, .int c, .int d, .int e] M (opN E jX12_feed (D + 20) [.ref 0, .int a, .int b, .int c, .int d, .int e] K) px := by
  obtain ⟨n, hn, t1, t2, t3⟩ := h.tape
  have e20 : nI n + 20 = nI (n + 20) := nI_add n 20
  refine e_X11_feed ?_
  rw [t1, e20]
  refine pk_le (n + 20) 400 (fun z => ?_) (fun z => fun px => ?_)
  · refine s_X9_add (n := n) (by omega) t1 (fun M4 a1 a2 a3 a4 => s_X9_add (n := n + 4) (by omega) a1 (fun M6 b1 b2 b3 b4 => s_X9_add (n := n + 4 + 4) (by omega) b1 (fun M8 c1 c2 c3 c4 => s_X9_add (n := n + 4 + 4 + 4) (by omega) c1 (fun M10 d1 d2 d3 d4 => s_X9_add (n := n + 4 + 4 + 4 + 4) (by omega) d1 (fun M12 f1 f2 f3 f4 px => ?_)))))
    have cls : ∀ j, M12.1 21 j = if n ≤ j ∧ j < n + 20 then nI (byt (fvF a b c d e ((j - n) / 4)) (24 - 8 * ((j - n) % 4))) else M.1 21 j := fun j => by
      rw [f2 j]
      by_cases q5 : n + 4 + 4 + 4 + 4 ≤ j ∧ j < n + 4 + 4 + 4 + 4 + 4
      · rw [if_pos q5, if_pos (by omega), show (j - n) / 4 = 4 by omega, show (j - n) % 4 = j - (n + 4 + 4 + 4 + 4) by omega]; rfl
      · rw [if_neg q5, d2 j]
        by_cases q4 : n + 4 + 4 + 4 ≤ j ∧ j < n + 4 + 4 + 4 + 4
        · rw [if_pos q4, if_pos (by omega), show (j - n) / 4 = 3 by omega, show (j - n) % 4 = j - (n + 4 + 4 + 4) by omega]; rfl
        · rw [if_neg q4, c2 j]
          by_cases q3 : n + 4 + 4 ≤ j ∧ j < n + 4 + 4 + 4
          · rw [if_pos q3, if_pos (by omega), show (j - n) / 4 = 2 by omega, show (j - n) % 4 = j - (n + 4 + 4) by omega]; rfl
          · rw [if_neg q3, b2 j]
            by_cases q2 : n + 4 ≤ j ∧ j < n + 4 + 4
            · rw [if_pos q2, if_pos (by omega), show (j - n) / 4 = 1 by omega, show (j - n) % 4 = j - (n + 4) by omega]; rfl
            · rw [if_neg q2, a2 j]
              by_cases q1 : n ≤ j ∧ j < n + 4
              · rw [if_pos q1, if_pos (by omega), show (j - n) / 4 = 0 by omega, show (j - n) % 4 = j - n by omega]; rfl
              · rw [if_neg q1, if_neg (by omega)]
    have cO : ∀ o j, o ≠ 21 → ¬ (o = 20 ∧ j = 1) → M12.1 o j = M.1 o j := fun o j g1 g2 => by rw [f3 o j g1 g2, d3 o j g1 g2, c3 o j g1 g2, b3 o j g1 g2, a3 o j g1 g2]
    have cL : M12.2 = M.2 := by rw [f4, d4, c4, b4, a4]
    have c20 : M12.1 20 1 = nI (n + 20) := f1
    rw [c20]
    refine e_X12_feed (fun M1 e1 => ?_)
    have e9 : M1.1 0 9 = nI n := by rw [e1, zup_n (Or.inr (by decide)), cO 0 9 (by decide) (by omega)]; exact t2
    rw [e9, e20]
    refine pk_le (n + 20) 400 (fun _ M6' g6 M8' g8 M10' g10 M12' g12 M14 g14 => ?_) (fun q => absurd z (by omega))
    have five : ∀ k, k < 5 → M14.1 7 k = fvF a b c d e k := fun k hk => by
      match k, hk with
      | 0, _ => rw [g14, g12, g10, g8, g6]; rfl
      | 1, _ => rw [g14, g12, g10, g8]; rfl
      | 2, _ => rw [g14, g12, g10]; rfl
      | 3, _ => rw [g14, g12]; rfl
      | 4, _ => rw [g14]; rfl
      | k + 5, hk => omega
    have o14 : ∀ o, o ≠ 7 → M14.1 o = M1.1 o := fun o ho => by rw [g14, zup_o ho, g12, zup_o ho, g10, zup_o ho, g8, zup_o ho, g6, zup_o ho]
    have l14 : M14.2 = M1.2 := by rw [g14, zup_L, g12, zup_L, g10, zup_L, g8, zup_L, g6, zup_L]
    refine zup_loop (fun i => ∀ M', (∀ j, M'.1 6 j = if n ≤ j ∧ j < n + i then (nI (byt (fvF a b c d e ((j - n) / 4)) (24 - 8 * ((j - n) % 4)))).toInt8.toInt32 else M.1 6 j) → (∀ o, o ≠ 6 → M'.1 o = M14.1 o) → M'.2 = M14.2 → w_X12_feed_60 E (D + 20) (fun b M2 => nI (n + 20) = b ∧ K M2) px (nI i) M') 20 (fun i hi ih M' r6 rO rL => ?_) (fun M' r6 rO rL => ?_) 0 (by omega) M14 (fun j => by
      rw [if_neg (by omega), o14 6 (by decide), e1, zup_o (by decide), cO 6 j (by decide) (by omega)]) (fun _ _ => rfl) rfl
    · have e9' : M'.1 0 9 = nI n := by rw [rO 0 (by decide), o14 0 (by decide)]; exact e9
      refine t_X12_feed_60 (pk_le 20 i (fun q => absurd q (by omega)) (fun _ => ?_))
      have ed : nI i / 4 = nI (i / 4) := pk_div (d := 4) (by omega) (by decide) (by decide)
      have er : zrem (nI i) 4 = nI (i % 4) := pk_rem (d := 4) (by omega) (by decide) (by decide)
      have es : (24 : Int32) - 8 * nI (i % 4) = nI (24 - 8 * (i % 4)) := by rw [show (8 : Int32) = nI 8 from rfl, pk_mul, show (24 : Int32) = nI 24 from rfl, pk_sub (by omega)]
      rw [e9', ed, er, es, nI_add, nI_clamp (n := n + i) (by omega), nI_clamp (n := i / 4) (by omega), pk_vb, byt_s (by omega), rO 7 (by decide), five _ (by omega)]
      refine ⟨pk_in _ _ (show i / 4 < 5 by omega), pk_in _ _ (show n + i < 400 by omega), fun M10'' e10 => ?_⟩
      rw [nI_1]
      refine ih M10'' (fun j => ?_) (fun o ho => by rw [e10, zup_o ho]; exact rO o ho) (by rw [e10, zup_L]; exact rL)
      rw [e10]
      by_cases cj : j = n + i
      · rw [cj, zup_s, if_pos (by omega), show n + i - n = i by omega]
      · rw [zup_n (Or.inr cj), r6 j]
        by_cases c2 : n ≤ j ∧ j < n + i
        · rw [if_pos c2, if_pos (by omega)]
        · rw [if_neg c2, if_neg (by omega)]
    · have e9' : M'.1 0 9 = nI n := by rw [rO 0 (by decide), o14 0 (by decide)]; exact e9
      refine t_X12_feed_60 (pk_le 20 20 (fun _ M4' g4 => ?_) (fun q => absurd q (by omega)))
      rw [e9', e20] at g4
      have v9 : M4'.1 0 9 = nI (n + 20) := by rw [g4, zup_s]
      rw [v9]
      refine ⟨rfl, hK _ ?_⟩
      have all : ∀ o j, o ≠ 6 → o ≠ 7 → o ≠ 21 → ¬ (o = 0 ∧ j = 0) → ¬ (o = 0 ∧ j = 9) → ¬ (o = 20 ∧ j = 1) → M4'.1 o j = M.1 o j := fun o j k1 k2 k3 k4 k5 k6 => by
        rw [g4, zup_n (by omega), rO o k1, o14 o k2, e1, zup_n (by omega)]
        exact cO o j k3 k6
      refine h.tp (fun o j h1 h2 h3 h4 h5 _ _ => ⟨all o j h3 (by rintro rfl; cases h1) h2 (by rintro ⟨rfl, rfl⟩; cases h1) h5 h4, ?_⟩) ⟨n + 20, by omega, ?_, v9, fun j hj => ?_⟩ ?_
      · rw [g4, zup_L, rL, l14, e1, zup_L, cL]
      · rw [g4, zup_o (by decide), rO 20 (by decide), o14 20 (by decide), e1, zup_o (by decide)]; exact c20
      · have v21 : M4'.1 21 j = M12.1 21 j := by rw [g4, zup_o (by decide), rO 21 (by decide), o14 21 (by decide), e1, zup_o (by decide)]
        have v6 : M4'.1 6 j = M'.1 6 j := by rw [g4, zup_o (by decide)]
        rw [v21, v6, cls j, r6 j]
        by_cases cj : n ≤ j ∧ j < n + 20
        · rw [if_pos cj, if_pos cj]
          exact ⟨_, Nat.mod_lt _ (by decide), rfl, rfl⟩
        · rw [if_neg cj, if_neg cj]
          exact t3 j hj
      · rw [all 19 11 (by decide) (by decide) (by decide) (by omega) (by omega) (by omega), all 0 14 (by decide) (by decide) (by decide) (by omega) (by omega) (by omega)]
        exact h.wrong
  · refine e_X12_feed (fun M1 e1 => ?_)
    have e9 : M1.1 0 9 = nI n := by rw [e1, zup_n (Or.inr (by decide))]; exact t2
    rw [e9, e20]
    refine pk_le (n + 20) 400 (fun q => absurd z (by omega)) (fun _ => ⟨rfl, hK _ ?_⟩)
    rw [e1]
    exact h.same (zpi_up rfl)
end OPK
