/-! ===== undo, image, back ===== -/
section OPL
variable {E : zEv} {D : Nat} {px : String → zM → Prop} {M : zM} {K : zM → Prop} {f : zRow}
theorem Rel.nH (h : Rel M) : M.1 59 1 = M.1 0 7 := by
  obtain ⟨n, nx, -, -, a3, a4, -⟩ := h.his
  exact a4.trans a3.symm
theorem op_undo (h : Rel M) (hK : ∀ M', Rel M' → K M') : zCi E jX11_undo (D + 20) 0 [.ref 19] M (opN E jX12_undo (D + 20) [.ref 0] K) px := by
  obtain ⟨n, nx, n12, x12, a3, a4, a5, a6⟩ := h.his
  have ei : zrem ((M.1 59 2 + 12) - 1) 12 = nI ((nx + 11) % 12) := by
    rw [a5, show nI nx + 12 = nI (nx + 12) from nI_add nx 12, show nx + 12 = (nx + 11) + 1 by omega, nI_pred]
    exact pk_rem (d := 12) (by omega) (by decide) (by decide)
  refine e_X11_undo (e_X5_undoInto ?_)
  rw [ei, a4, nI_clamp (by omega)]
  refine ⟨pk_in _ _ (show (nx + 11) % 12 < 12 by omega), fun z => t_X5_undoInto_31 ⟨Or.inl rfl, fun px => ?_⟩, fun z => ?_⟩
  · refine e_X12_undo (fun M1 e1 => ?_)
    have e7 : M1.1 0 7 = nI n := by rw [e1, zup_n (Or.inr (by decide))]; exact a3
    rw [e7]
    refine ⟨fun q => absurd z q, fun _ => ⟨rfl, hK _ ?_⟩⟩
    rw [e1]
    exact h.same (zpi_up rfl)
  · have n0' : n ≠ 0 := fun q => z (by rw [q]; rfl)
    obtain ⟨r1, r2, r3⟩ := a6 0 (by omega)
    have ez : (nx + 11 - 0) % 12 = (nx + 11) % 12 := by omega
    rw [ez] at r2
    have en : n - 1 - 0 = n - 1 := by omega
    rw [en] at r1 r2 r3
    generalize hg : (fun j => M.1 5 (372 * (n - 1) + j)) = g at *
    have eg : ∀ j, M.1 5 (372 * (n - 1) + j) = g j := fun j => by rw [← hg]
    have hz := zc_lo ((nx + 11) % 12)
    have hzc : zIsC (zcourt ((nx + 11) % 12)) := by
      have := zIsC_court (i := nI ((nx + 11) % 12)) (pk_in _ _ (show (nx + 11) % 12 < 12 by omega))
      rw [nI_clamp (by omega)] at this
      exact this
    refine s_X3_copy zc61 hzc (by omega) (fun M6 c6 o6 M8 e8 M10 e10 => ⟨Or.inr rfl, fun px => ?_⟩)
    have cr6 : cR M6 61 g := cR_copy r1 r2 c6
    have x8 : M8.1 59 1 = nI n := by rw [e8, zup_n (Or.inr (by decide)), (o6 59 (by omega)).1]; exact a4
    rw [x8, show n = (n - 1) + 1 by omega, nI_pred] at e10
    have O10 : ∀ o, o ≠ 59 → M10.1 o = M6.1 o := fun o ho => by rw [e10, zup_o ho, e8, zup_o ho]
    have L10 : M10.2 = M6.2 := by rw [e10, zup_L, e8, zup_L]
    refine e_X12_undo (fun M1 e1 => ?_)
    have e7 : M1.1 0 7 = nI n := by rw [e1, zup_n (Or.inr (by decide)), O10 0 (by decide), (o6 0 (by omega)).1]; exact a3
    rw [e7]
    refine ⟨fun _ M6' g6 => ?_, fun q => absurd q z⟩
    rw [show n = (n - 1) + 1 by omega, nI_pred] at g6
    have s7 : M6'.1 0 7 = nI (n - 1) := by rw [g6, zup_s]
    have s5 : M6'.1 5 = M.1 5 := by rw [g6, zup_o (by decide), e1, zup_o (by decide), O10 5 (by decide), (o6 5 (by omega)).1]
    have s1 : M6'.1 1 = M.1 1 := by rw [g6, zup_o (by decide), e1, zup_o (by decide), O10 1 (by decide), (o6 1 (by omega)).1]
    have key := zup_loop (fun i => w_X12_undo_26 E (D + 20) (fun b M2 => (1 : Int32) = b ∧ K M2) px (nI i) (zcp M6' 1 0 5 (372 * (n - 1)) i)) 372 (fun i hi ih => ?_) ?_ 0 (by decide)
    · rw [zcp_0] at key
      exact key
    · have e7' : (zcp M6' 1 0 5 (372 * (n - 1)) i).1 0 7 = nI (n - 1) := by rw [zcp_out (Or.inl (by decide))]; exact s7
      refine t_X12_undo_26 (pk_le 372 i (fun q => absurd q (by omega)) (fun _ => ?_))
      rw [e7', show (372 : Int32) * nI (n - 1) + nI i = nI (372 * (n - 1) + i) by rw [show (372 : Int32) = nI 372 from rfl, pk_mul, nI_add], nI_clamp (n := 372 * (n - 1) + i) (by omega), nI_clamp (n := i) (by omega)]
      refine ⟨pk_in _ _ (show 372 * (n - 1) + i < 4464 by omega), pk_in _ _ (show i < 2070 by omega), fun M8' g8 => ?_⟩
      have e2 := zcp_succ (M := M6') (o := 1) (d := 0) (o2 := 5) (s := 372 * (n - 1)) (n := i) (Or.inl (by decide))
      rw [Nat.zero_add] at e2
      rw [g8, e2, nI_1]
      exact ih
    · refine t_X12_undo_26 (pk_le 372 372 (fun _ => ⟨rfl, hK _ ?_⟩) (fun q => absurd q (by omega)))
      generalize hM2 : zcp M6' 1 0 5 (372 * (n - 1)) 372 = M2
      have w2 : ∀ j, j < 372 → M2.1 1 j = g j := fun j hj => by
        rw [← hM2, zcp_in (by omega) (by omega), s5, ← eg]
        exact congrArg (M.1 5) (by omega)
      have w2' : ∀ j, 372 ≤ j → M2.1 1 j = M.1 1 j := fun j hj => by rw [← hM2, zcp_out (Or.inr (Or.inr (by omega))), s1]
      have O2 : ∀ o j, o ≠ 1 → o ≠ 59 → (o < 61 ∨ 75 ≤ o) → ¬ (o = 0 ∧ j = 0) → ¬ (o = 0 ∧ j = 7) → M2.1 o j = M.1 o j := fun o j k1 k2 k3 k4 k5 => by
        rw [← hM2, zcp_out (Or.inl k1), g6, zup_n (by omega), e1, zup_n (by omega), O10 o k2, (o6 o (by omega)).1]
      have L2 : ∀ o, (o < 61 ∨ 75 ≤ o) → M2.2 o = M.2 o := fun o ho => by
        rw [← hM2, zcp_L, g6, zup_L, e1, zup_L, L10, (o6 o (by omega)).2]
      have hk2 : okF (M2.1 1) := okF_f w2 r1
      have w5 : M2.1 1 5 = M.1 1 5 := by rw [w2 5 (by decide), ← eg 5]; exact r3
      refine Rel.of ⟨hk2, ?_, ?_, ?_, ?_, ?_, ?_⟩
      · refine cR_f w2 r1 (cR_same (fun o j h1 h2 => ⟨?_, ?_⟩) r1 cr6)
        · rw [← hM2, zcp_out (Or.inl (by omega)), g6, zup_o (by omega), e1, zup_o (by omega), O10 o (by omega)]
        · rw [← hM2, zcp_L, g6, zup_L, e1, zup_L, L10]
      · exact lawR_same w5 (fun j _ => w2' _ (by omega)) (O2 36 6 (by decide) (by decide) (by omega) (by omega) (by omega)) (fun i j h1 h2 h3 => O2 _ j (by omega) (by omega) (by omega) (by omega) (by omega)) (fun j _ => O2 _ j (by omega) (by omega) (by omega) (by omega) (by omega)) h.law
      · exact tapeR_same h.tape (O2 20 1 (by decide) (by decide) (by omega) (by omega) (by omega)) (O2 0 9 (by decide) (by decide) (by omega) (by omega) (by omega)) (fun j => O2 21 j (by decide) (by decide) (by omega) (by omega) (by omega)) (fun j => O2 6 j (by decide) (by decide) (by omega) (by omega) (by omega))
      · rw [O2 19 11 (by decide) (by decide) (by omega) (by omega) (by omega), O2 0 14 (by decide) (by decide) (by omega) (by omega) (by omega)]; exact h.wrong
      · exact imgR_same h.img (O2 19 12 (by decide) (by decide) (by omega) (by omega) (by omega)) (O2 0 6 (by decide) (by decide) (by omega) (by omega) (by omega)) (fun j => O2 2 j (by decide) (by decide) (by omega) (by omega) (by omega)) (fun o j h1 h2 => ⟨O2 o j (by omega) (by omega) (by omega) (by omega) (by omega), by rw [L2 o (by omega)]⟩) (fun o j h1 h2 => O2 o j (by omega) (by omega) (by omega) (by omega) (by omega))
      · refine ⟨n - 1, (nx + 11) % 12, by omega, by omega, ?_, ?_, ?_, fun k hk => ?_⟩
        · rw [← hM2, zcp_out (Or.inl (by decide))]; exact s7
        · rw [← hM2, zcp_out (Or.inl (by decide)), g6, zup_o (by decide), e1, zup_o (by decide), e10, zup_s]
        · rw [← hM2, zcp_out (Or.inl (by decide)), g6, zup_o (by decide), e1, zup_o (by decide), e10, zup_n (Or.inr (by decide)), e8, zup_s]
        · obtain ⟨f1, f2, f3⟩ := a6 (k + 1) (by omega)
          rw [show (nx + 11 - (k + 1)) % 12 = ((nx + 11) % 12 + 11 - k) % 12 by omega, show n - 1 - (k + 1) = n - 1 - 1 - k by omega] at f2
          rw [show n - 1 - (k + 1) = n - 1 - 1 - k by omega] at f1 f3
          have hz2 := zc_lo (((nx + 11) % 12 + 11 - k) % 12)
          have er : ∀ j, j < 372 → M2.1 5 (372 * (n - 1 - 1 - k) + j) = M.1 5 (372 * (n - 1 - 1 - k) + j) := fun j _ => O2 5 _ (by decide) (by decide) (by omega) (by omega) (by omega)
          exact ⟨okF_f er f1, cR_f er f1 (cR_same (fun o j h1 h2 => ⟨O2 o j (by omega) (by omega) (by omega) (by omega) (by omega), by rw [L2 o (by omega)]⟩) f1 f2), by rw [er 5 (by decide), w5]; exact f3⟩
/-! laws copied -/
theorem zl29 : zIsL 29 := Or.inr (Or.inl rfl)
theorem zl36 : zIsL 36 := Or.inr (Or.inr rfl)
theorem zl22 : zIsL 22 := Or.inl rfl
theorem n12 : ((12 : Int32)).toNatClampNeg = 12 := rfl
theorem n400 : ((400 : Int32)).toNatClampNeg = 400 := rfl
theorem s_X6_copy {post : zM → Prop} {b b2 : Nat} (hb : zIsL b) (hb2 : zIsL b2) (hd : b + 7 ≤ b2 ∨ b2 + 7 ≤ b) (hp : ∀ M', M'.1 b 6 = M.1 b2 6 → (∀ i j, 1 ≤ i → i < 4 → j < 12 → M'.1 (b + i) j = M.1 (b2 + i) j) → (∀ j, j < 400 → M'.1 (b + 4) j = M.1 (b2 + 4) j) → (∀ o, (o < b ∨ b + 5 ≤ o) → M'.1 o = M.1 o) → M'.2 = M.2 → post M') : zCv E jX6_copy D 0 [.ref b, .ref b2] M post px := by
  refine e_X6_copy hb hb2 (fun M1 e1 M3 e3 M5 e5 M7 e7 M9 e9 M11 e11 => hp M11 ?_ (fun i j h1 h2 h3 => ?_) (fun j hj => ?_) (fun o ho => ?_) ?_)
  · rw [e11, zup_n (Or.inr (by decide)), e9, zup_s, e7, zrow_o (by omega), e5, zrow_o (by omega), e3, zrow_o (by omega), e1, zrow_o (by omega)]
  · match i, h1, h2 with
    | 1, _, _ => rw [e11, zup_o (by omega), e9, zup_o (by omega), e7, zrow_o (by omega), e5, zrow_o (by omega), e3, zrow_o (by omega), e1, zrow_row, n0, n12, cpy0 h3]
    | 2, _, _ => rw [e11, zup_o (by omega), e9, zup_o (by omega), e7, zrow_o (by omega), e5, zrow_o (by omega), e3, zrow_row, n0, n12, cpy0 h3, e1, zrow_o (by omega)]
    | 3, _, _ => rw [e11, zup_o (by omega), e9, zup_o (by omega), e7, zrow_o (by omega), e5, zrow_row, n0, n12, cpy0 h3, e3, zrow_o (by omega), e1, zrow_o (by omega)]
    | i + 4, _, h2 => omega
  · rw [e11, zup_o (by omega), e9, zup_o (by omega), e7, zrow_row, n0, n400, cpy0 hj, e5, zrow_o (by omega), e3, zrow_o (by omega), e1, zrow_o (by omega)]
  · rw [e11, zup_o (by omega), e9, zup_o (by omega), e7, zrow_o (by omega), e5, zrow_o (by omega), e3, zrow_o (by omega), e1, zrow_o (by omega)]
  · rw [e11, zup_L, e9, zup_L, e7, zrow_L, e5, zrow_L, e3, zrow_L, e1, zrow_L]
/-- the two sides of a call that answers nothing -/
def opV0 (E : zEv) (JX : zJ) (D : Nat) (as : List Value) (K : zM → Prop) (M1 : zM) : Prop := ∀ px : String → zM → Prop, zCv E JX D 0 as M1 K px
theorem op_image (h : Rel M) (hK : ∀ M', Rel M' → K M') : zCv E jX11_image (D + 20) 0 [.ref 19] M (opV0 E jX12_image (D + 20) [.ref 0] K) px := by
  refine e_X11_image (s_X3_copy zc89 zc61 (by decide) (fun M1 c1 o1 => s_X6_copy ?_ ?_ (by omega) (fun M3 b1 b2 b3 b4 b5 M5 e5 px => ?_)))
  · exact zl29
  · exact zl36
  refine e_X12_image (fun M0 e0 => ?_)
  have O0 : ∀ o j, (o < 29 ∨ 34 ≤ o) → (o < 89 ∨ 103 ≤ o) → ¬ (o = 19 ∧ j = 12) → ¬ (o = 0 ∧ j = 0) → M0.1 o j = M.1 o j := fun o j k1 k2 k3 k4 => by
    rw [e0, zup_n (by omega), e5, zup_n (by omega), b4 o (by omega), (o1 o (by omega)).1]
  have L0 : ∀ o, (o < 89 ∨ 103 ≤ o) → M0.2 o = M.2 o := fun o k => by rw [e0, zup_L, e5, zup_L, b5, (o1 o (by omega)).2]
  have key := zup_loop (fun i => w_X12_image_7 E (D + 20) K px (nI i) (zcp M0 2 0 1 0 i)) 1221 (fun i hi ih => ?_) ?_ 0 (by decide)
  · rw [zcp_0] at key
    exact key
  · refine t_X12_image_7 (pk_le 1221 i (fun q => absurd q (by omega)) (fun _ => ⟨pk_in i _ (by omega), pk_in i _ (by omega), fun M10 e10 => ?_⟩))
    rw [nI_clamp (by omega)] at e10
    have e2 := zcp_succ (M := M0) (o := 2) (d := 0) (o2 := 1) (s := 0) (n := i) (Or.inl (by decide))
    rw [Nat.zero_add] at e2
    rw [e10, e2, nI_1]
    exact ih
  · refine t_X12_image_7 (pk_le 1221 1221 (fun _ M4 e4 => hK _ ?_) (fun q => absurd q (by omega)))
    have O4 : ∀ o j, o ≠ 2 → (o < 29 ∨ 34 ≤ o) → (o < 89 ∨ 103 ≤ o) → ¬ (o = 19 ∧ j = 12) → ¬ (o = 0 ∧ j = 0) → ¬ (o = 0 ∧ j = 6) → M4.1 o j = M.1 o j := fun o j k0 k1 k2 k3 k4 k5 => by
      rw [e4, zup_n (by omega), zcp_out (Or.inl k0)]; exact O0 o j k1 k2 k3 k4
    have L4 : ∀ o, (o < 89 ∨ 103 ≤ o) → M4.2 o = M.2 o := fun o k => by rw [e4, zup_L, zcp_L]; exact L0 o k
    have i4 : ∀ j, j < 1221 → M4.1 2 j = M.1 1 j := fun j hj => by
      rw [e4, zup_o (by decide), zcp_in (by omega) (by omega), O0 1 _ (by omega) (by omega) (by omega) (by omega)]
      exact congrArg (M.1 1) (by omega)
    have w4 : M4.1 1 = M.1 1 := funext fun j => O4 1 j (by decide) (by omega) (by omega) (by omega) (by omega) (by omega)
    refine Rel.of ⟨by rw [w4]; exact h.ok, ?_, ?_, ?_, ?_, ⟨?_, Or.inr ⟨?_, ?_, ?_, ?_⟩⟩, ?_⟩
    · rw [w4]
      exact cR_same (fun o j h1 h2 => ⟨O4 o j (by omega) (by omega) (by omega) (by omega) (by omega) (by omega), by rw [L4 o (by omega)]⟩) h.ok h.now
    · exact lawR_same (by rw [w4]) (fun j _ => by rw [w4]) (O4 36 6 (by decide) (by omega) (by omega) (by omega) (by omega) (by omega)) (fun i j h1 h2 h3 => O4 _ j (by omega) (by omega) (by omega) (by omega) (by omega) (by omega)) (fun j _ => O4 _ j (by omega) (by omega) (by omega) (by omega) (by omega) (by omega)) h.law
    · exact tapeR_same h.tape (O4 20 1 (by decide) (by omega) (by omega) (by omega) (by omega) (by omega)) (O4 0 9 (by decide) (by omega) (by omega) (by omega) (by omega) (by omega)) (fun j => O4 21 j (by decide) (by omega) (by omega) (by omega) (by omega) (by omega)) (fun j => O4 6 j (by decide) (by omega) (by omega) (by omega) (by omega) (by omega))
    · rw [O4 19 11 (by decide) (by omega) (by omega) (by omega) (by omega) (by omega), O4 0 14 (by decide) (by omega) (by omega) (by omega) (by omega) (by omega)]; exact h.wrong
    · rw [e4, zup_o (by decide), zup_s, zcp_out (Or.inl (by decide)), e0, zup_o (by decide), e5, zup_s]
    · rw [e4, zup_s]
    · exact okF_f (fun j hj => i4 j (by omega)) h.ok
    · refine cR_f (fun j hj => i4 j (by omega)) h.ok ?_
      refine cR_same (M := M1) (fun o j h1 h2 => ⟨?_, ?_⟩) h.ok (cR_copy h.ok h.now c1)
      · rw [e4, zup_o (by omega), zcp_out (Or.inl (by omega)), e0, zup_o (by omega), e5, zup_o (by omega), b4 o (by omega)]
      · rw [e4, zup_L, zcp_L, e0, zup_L, e5, zup_L, b5]
    · have T : ∀ o, 29 ≤ o → o < 34 → M4.1 o = M3.1 o := fun o h1 h2 => by
        funext j
        rw [e4, zup_o (by omega), zcp_out (Or.inl (by omega)), e0, zup_o (by omega), e5, zup_o (by omega)]
      refine lawR_same (i4 5 (by decide)) (fun j hj => i4 _ (by omega)) ?_ (fun i j h1 h2 h3 => ?_) (fun j hj => ?_) h.law
      · rw [T 29 (by omega) (by omega), b1, (o1 36 (by omega)).1]
      · rw [T (29 + i) (by omega) (by omega), b2 i j h1 h2 h3, (o1 _ (by omega)).1]
      · rw [T (29 + 4) (by omega) (by omega), b3 j hj, (o1 _ (by omega)).1]
    · obtain ⟨n, nx, c1', c2, c3, c4, c5, c6⟩ := h.his
      refine ⟨n, nx, c1', c2, ?_, ?_, ?_, fun k hk => ?_⟩
      · rw [O4 0 7 (by decide) (by omega) (by omega) (by omega) (by omega) (by omega)]; exact c3
      · rw [O4 59 1 (by decide) (by omega) (by omega) (by omega) (by omega) (by omega)]; exact c4
      · rw [O4 59 2 (by decide) (by omega) (by omega) (by omega) (by omega) (by omega)]; exact c5
      · obtain ⟨f1, f2, f3⟩ := c6 k hk
        have hz := zc_lo ((nx + 11 - k) % 12)
        have er : ∀ j, j < 372 → M4.1 5 (372 * (n - 1 - k) + j) = M.1 5 (372 * (n - 1 - k) + j) := fun j _ => O4 5 _ (by decide) (by omega) (by omega) (by omega) (by omega) (by omega)
        exact ⟨okF_f er f1, cR_f er f1 (cR_same (fun o j h1 h2 => ⟨O4 o j (by omega) (by omega) (by omega) (by omega) (by omega) (by omega), by rw [L4 o (by omega)]⟩) f1 f2), by rw [er 5 (by decide), w4]; exact f3⟩
theorem op_back (h : Rel M) (hK : ∀ M', Rel M' → K M') : zCi E jX11_back (D + 20) 0 [.ref 19] M (opN E jX12_back (D + 20) [.ref 0] K) px := by
  obtain ⟨i1, i2⟩ := h.img
  refine e_X11_back ⟨fun z => ?_, fun z px => ?_⟩
  · have hz : M.1 0 6 = 1 ∧ okF (M.1 2) ∧ cR M 89 (M.1 2) ∧ lawR M 29 (M.1 2) := i2.resolve_left (fun q => z (i1.trans q))
    obtain ⟨j1, j2, j3, j4⟩ := hz
    refine s_X3_copy zc61 zc89 (by decide) (fun M1 c1 o1 => s_X6_copy zl36 zl29 (by omega) (fun M3 b1 b2 b3 b4 b5 => e_X5_forget (fun M5 e5 px => ?_)))
    refine e_X12_back (fun M0 e0 => ?_)
    have e6 : M0.1 0 6 = 1 := by rw [e0, zup_n (Or.inr (by decide)), e5, zup_o (by decide), b4 0 (by omega), (o1 0 (by omega)).1]; exact j1
    rw [e6]
    refine z1A ?_
    have O0 : ∀ o j, (o < 36 ∨ 41 ≤ o) → (o < 61 ∨ 75 ≤ o) → ¬ (o = 59 ∧ j = 1) → ¬ (o = 0 ∧ j = 0) → M0.1 o j = M.1 o j := fun o j k1 k2 k3 k4 => by
      rw [e0, zup_n (by omega), e5, zup_n (by omega), b4 o (by omega), (o1 o (by omega)).1]
    have L0 : ∀ o, (o < 61 ∨ 75 ≤ o) → M0.2 o = M.2 o := fun o k => by rw [e0, zup_L, e5, zup_L, b5, (o1 o (by omega)).2]
    have key := zup_loop (fun i => w_X12_back_16 E (D + 20) (fun b M2 => (1 : Int32) = b ∧ K M2) px (nI i) (zcp M0 1 0 2 0 i)) 1221 (fun i hi ih => ?_) ?_ 0 (by decide)
    · rw [zcp_0] at key
      exact key
    · refine t_X12_back_16 (pk_le 1221 i (fun q => absurd q (by omega)) (fun _ => ⟨pk_in i _ (by omega), pk_in i _ (by omega), fun M10 e10 => ?_⟩))
      rw [nI_clamp (by omega)] at e10
      have e2 := zcp_succ (M := M0) (o := 1) (d := 0) (o2 := 2) (s := 0) (n := i) (Or.inl (by decide))
      rw [Nat.zero_add] at e2
      rw [e10, e2, nI_1]
      exact ih
    · refine t_X12_back_16 (pk_le 1221 1221 (fun _ M4 e4 => ⟨rfl, hK _ ?_⟩) (fun q => absurd q (by omega)))
      have O4 : ∀ o j, o ≠ 1 → (o < 36 ∨ 41 ≤ o) → (o < 61 ∨ 75 ≤ o) → ¬ (o = 59 ∧ j = 1) → ¬ (o = 0 ∧ j = 0) → ¬ (o = 0 ∧ j = 7) → M4.1 o j = M.1 o j := fun o j k0 k1 k2 k3 k4 k5 => by
        rw [e4, zup_n (by omega), zcp_out (Or.inl k0)]; exact O0 o j k1 k2 k3 k4
      have L4 : ∀ o, (o < 61 ∨ 75 ≤ o) → M4.2 o = M.2 o := fun o k => by rw [e4, zup_L, zcp_L]; exact L0 o k
      have w4 : ∀ j, j < 1221 → M4.1 1 j = M.1 2 j := fun j hj => by
        rw [e4, zup_o (by decide), zcp_in (by omega) (by omega), O0 2 _ (by omega) (by omega) (by omega) (by omega)]
        exact congrArg (M.1 2) (by omega)
      refine Rel.of ⟨okF_f (fun j hj => w4 j (by omega)) j2, ?_, ?_, ?_, ?_, ?_, ?_⟩
      · refine cR_f (fun j hj => w4 j (by omega)) j2 ?_
        refine cR_same (M := M1) (fun o j h1 h2 => ⟨?_, ?_⟩) j2 (cR_copy j2 j3 c1)
        · rw [e4, zup_o (by omega), zcp_out (Or.inl (by omega)), e0, zup_o (by omega), e5, zup_o (by omega), b4 o (by omega)]
        · rw [e4, zup_L, zcp_L, e0, zup_L, e5, zup_L, b5]
      · have T : ∀ o, 36 ≤ o → o < 41 → M4.1 o = M3.1 o := fun o h1 h2 => by
          funext j
          rw [e4, zup_o (by omega), zcp_out (Or.inl (by omega)), e0, zup_o (by omega), e5, zup_o (by omega)]
        refine lawR_same (w4 5 (by decide)) (fun j hj => w4 _ (by omega)) ?_ (fun i j h1 h2 h3 => ?_) (fun j hj => ?_) j4
        · rw [T 36 (by omega) (by omega), b1, (o1 29 (by omega)).1]
        · rw [T (36 + i) (by omega) (by omega), b2 i j h1 h2 h3, (o1 _ (by omega)).1]
        · rw [T (36 + 4) (by omega) (by omega), b3 j hj, (o1 _ (by omega)).1]
      · exact tapeR_same h.tape (O4 20 1 (by decide) (by omega) (by omega) (by omega) (by omega) (by omega)) (O4 0 9 (by decide) (by omega) (by omega) (by omega) (by omega) (by omega)) (fun j => O4 21 j (by decide) (by omega) (by omega) (by omega) (by omega) (by omega)) (fun j => O4 6 j (by decide) (by omega) (by omega) (by omega) (by omega) (by omega))
      · rw [O4 19 11 (by decide) (by omega) (by omega) (by omega) (by omega) (by omega), O4 0 14 (by decide) (by omega) (by omega) (by omega) (by omega) (by omega)]; exact h.wrong
      · exact imgR_same h.img (O4 19 12 (by decide) (by omega) (by omega) (by omega) (by omega) (by omega)) (O4 0 6 (by decide) (by omega) (by omega) (by omega) (by omega) (by omega)) (fun j => O4 2 j (by decide) (by omega) (by omega) (by omega) (by omega) (by omega)) (fun o j h1 h2 => ⟨O4 o j (by omega) (by omega) (by omega) (by omega) (by omega) (by omega), by rw [L4 o (by omega)]⟩) (fun o j h1 h2 => O4 o j (by omega) (by omega) (by omega) (by omega) (by omega) (by omega))
      · obtain ⟨n, nx, c1', c2, c3, c4, c5, c6⟩ := h.his
        refine ⟨0, nx, by omega, c2, ?_, ?_, ?_, fun k hk => absurd hk (by omega)⟩
        · rw [e4, zup_s]; rfl
        · rw [e4, zup_o (by decide), zcp_out (Or.inl (by decide)), e0, zup_o (by decide), e5, zup_s]; rfl
        · rw [O4 59 2 (by decide) (by omega) (by omega) (by omega) (by omega) (by omega)]; exact c5
  · refine e_X12_back (fun M0 e0 => ?_)
    have e6 : M0.1 0 6 = 0 := by rw [e0, zup_n (Or.inr (by decide)), ← i1]; exact z
    rw [e6]
    refine z0B ⟨rfl, hK _ ?_⟩
    rw [e0]
    exact h.same (zpi_up rfl)
end OPL
