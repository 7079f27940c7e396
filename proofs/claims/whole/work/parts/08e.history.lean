/-! ===== acts remembered ===== -/
section HI
variable {E : zEv} {D : Nat} {post : zM → Prop} {px : String → zM → Prop} {M : zM}
theorem nlit {n : Nat} : (OfNat.ofNat n : Int32) = nI n := rfl
/-- the reference's rows behind an act -/
def rmb (M : zM) (h : Nat) : zM := if h = 12 then zcp (zcp M 5 0 5 372 4092) 5 4092 1 0 372 else zcp (zup M 0 7 (nI (h + 1))) 5 (372 * h) 1 0 372
theorem rm_last {r : Nat} {M0 : zM} (hr : r < 12) (h7 : M0.1 0 7 = nI (r + 1)) (hp : post (zcp M0 5 (372 * r) 1 0 372)) : w_X12_remembers_55 E D post px 0 M0 := by
  have key := zup_loop (fun i => w_X12_remembers_55 E D post px (nI i) (zcp M0 5 (372 * r) 1 0 i)) 372 (fun i hi ih => ?_) ?_ 0 (by decide)
  · rw [zcp_0] at key
    exact key
  · refine t_X12_remembers_55 (pk_le 372 i (fun z => absurd z (by omega)) (fun _ => ?_))
    have e7 : (zcp M0 5 (372 * r) 1 0 i).1 0 7 = nI (r + 1) := by rw [zcp_out (Or.inl (by decide))]; exact h7
    have ix : (372 : Int32) * ((zcp M0 5 (372 * r) 1 0 i).1 0 7 - 1) + nI i = nI (372 * r + i) := by
      rw [e7, nI_pred, show (372 : Int32) = nI 372 from rfl, pk_mul, nI_add]
    rw [ix]
    refine ⟨pk_in i _ (by omega), pk_in (372 * r + i) _ (by omega), fun M8 e => ?_⟩
    rw [nI_clamp (by omega), nI_clamp (by omega)] at e
    have e2 := zcp_succ (M := M0) (o := 5) (d := 372 * r) (o2 := 1) (s := 0) (n := i) (Or.inl (by decide))
    rw [Nat.zero_add] at e2
    rw [e, e2, nI_1]
    exact ih
  · exact t_X12_remembers_55 (pk_le 372 372 (fun _ => hp) (fun z => absurd z (by omega)))
theorem s_X12_remembers {h : Nat} (hh : h ≤ 12) (h7 : M.1 0 7 = nI h) (hp : post (rmb M h)) : zCv E jX12_remembers D 0 [.ref 0] M post px := by
  refine e_X12_remembers ?_
  by_cases c : h = 12
  · subst c
    refine ⟨fun z => absurd h7 z, fun _ => ?_⟩
    have key := zup_loop (fun i => w_X12_remembers_11 E D post px (nI i) (zcp M 5 0 5 372 i)) 4092 (fun i hi ih => ?_) ?_ 0 (by decide)
    · rw [zcp_0] at key
      exact key
    · refine t_X12_remembers_11 (pk_le 4092 i (fun z => absurd z (by omega)) (fun _ => ?_))
      have ix : nI i + 372 = nI (372 + i) := by rw [show (372 : Int32) = nI 372 from rfl, nI_add, Nat.add_comm]
      rw [ix]
      refine ⟨pk_in (372 + i) _ (by omega), pk_in i _ (by omega), fun M8 e => ?_⟩
      rw [nI_clamp (by omega), nI_clamp (by omega)] at e
      have e2 := zcp_succ (M := M) (o := 5) (d := 0) (o2 := 5) (s := 372) (n := i) (Or.inr (by decide))
      rw [Nat.zero_add] at e2
      rw [e, e2, nI_1]
      exact ih
    · refine t_X12_remembers_11 (pk_le 4092 4092 (fun _ => t_X12_remembers_53 (rm_last (r := 11) (by decide) ?_ ?_)) (fun z => absurd z (by omega)))
      · rw [zcp_out (Or.inl (by decide))]; exact h7
      · unfold rmb at hp
        rw [if_pos rfl] at hp
        exact hp
  · refine ⟨fun _ M4 e => t_X12_remembers_53 (rm_last (r := h) (by omega) ?_ ?_), fun z => ?_⟩
    · rw [e, zup_s, h7, nI_1]
    · unfold rmb at hp
      rw [if_neg c] at hp
      rw [e, h7, nI_1]
      exact hp
    · rw [h7] at z
      exact absurd ((nI_eq (by omega) (by decide)).mp z) c
theorem s_X5_remember {nx : Nat} (hx : nx < 12) (h2 : M.1 59 2 = nI nx) (hp : ∀ M', crtE M' (zcourt nx) M 61 → (∀ o, o ≠ 59 → (o < zcourt nx ∨ zcourt nx + 14 ≤ o) → M'.1 o = M.1 o ∧ M'.2 o = M.2 o) → M'.1 59 2 = nI ((nx + 1) % 12) → M'.1 59 1 = zmin 12 (M.1 59 1 + 1) → post M') : zCv E jX5_remember (D + 2) 0 [.ref 59, .ref 61] M post px := by
  have hin : vp_in (M.1 59 2) 12 := pk_in nx _ hx h2
  have hcl : (M.1 59 2).toNatClampNeg = nx := pk_cl nx h2
  have hcc : zIsC (zcourt nx) := by
    have := zIsC_court hin
    rw [hcl] at this
    exact this
  refine e_X5_remember ⟨hin, ?_⟩
  rw [hcl]
  refine s_X3_copy hcc ⟨0, by decide, rfl⟩ (by unfold zcourt; omega) (fun M3 a1 a2 M5 e5 M7 e7 => ?_)
  have hz : 103 ≤ zcourt nx := by unfold zcourt; omega
  have k3 := (a2 59 (by omega)).1
  have e59 : ∀ j, j < 59 → j ≠ 1 → True := fun _ _ _ => trivial
  have o7 : ∀ o, o ≠ 59 → M7.1 o = M3.1 o := fun o ho => by rw [e7, zup_o ho, e5, zup_o ho]
  have l7 : M7.2 = M3.2 := by rw [e7, zup_L, e5, zup_L]
  refine hp M7 ?_ (fun o h1 h2 => ⟨by rw [o7 o h1]; exact (a2 o h2).1, by rw [l7]; exact (a2 o h2).2⟩) ?_ ?_
  · obtain ⟨b1, b2, b3, ⟨b4, b5⟩, b6, b7, b8, b9, b10⟩ := a1
    refine ⟨fun j h1 h2 => by rw [o7 _ (by omega)]; exact b1 j h1 h2, by rw [o7 _ (by omega)]; exact b2, fun i j h1 h2 h3 => by rw [o7 _ (by omega)]; exact b3 i j h1 h2 h3, ⟨by rw [o7 _ (by omega)]; exact b4, by rw [o7 _ (by omega)]; exact b5⟩, fun j hj => by rw [l7]; exact b6 j hj, fun j hj => by rw [o7 _ (by omega)]; exact b7 j hj, fun j hj => by rw [o7 _ (by omega)]; exact b8 j hj, fun j hj => by rw [o7 _ (by omega)]; exact b9 j hj, fun j hj => by rw [o7 _ (by omega)]; exact b10 j hj⟩
  · rw [e7, zup_n (Or.inr (by decide)), e5, zup_s, k3, h2, nI_1]
    exact pk_rem (a := nx + 1) (d := 12) (by omega) (by decide) (by decide)
  · rw [e7, zup_s, e5, zup_n (Or.inr (by decide)), k3]
theorem zmin_nI {a b : Nat} (ha : a < 2 ^ 31) (hb : b < 2 ^ 31) : zmin (nI a) (nI b) = nI (min a b) := by
  unfold zmin
  by_cases c : b < a
  · rw [if_pos (nI_lt c ha), Nat.min_eq_right (by omega)]
  · rw [if_neg (nI_nlt (by omega) hb), Nat.min_eq_left (by omega)]
theorem zmax_nI {a b : Nat} (ha : a < 2 ^ 31) (hb : b < 2 ^ 31) : zmax (nI a) (nI b) = nI (max a b) := by
  unfold zmax
  by_cases c : a < b
  · rw [if_pos (nI_lt c hb), Nat.max_eq_right (by omega)]
  · rw [if_neg (nI_nlt (by omega) ha), Nat.max_eq_left (by omega)]
theorem zmin_count {h : Nat} (hh : h ≤ 12) : zmin 12 (nI h + 1) = nI (min 12 (h + 1)) := by
  rw [nI_1]
  exact zmin_nI (a := 12) (by decide) (by omega)
/-- the class has remembered an act; its court is what it may be -/
def actC (M M1 : zM) : Prop := ∃ h nx, h ≤ 12 ∧ nx < 12 ∧ M.1 0 7 = nI h ∧ M.1 59 1 = nI h ∧ M.1 59 2 = nI nx ∧ M1.1 59 2 = nI ((nx + 1) % 12) ∧ M1.1 59 1 = nI (min 12 (h + 1)) ∧ crtE M1 (zcourt nx) M 61 ∧
  ∀ o j, irr o j = false → o ≠ 59 → (o < 61 ∨ 75 ≤ o) → (o < zcourt nx ∨ zcourt nx + 14 ≤ o) → M1.1 o j = M.1 o j ∧ M1.2 o j = M.2 o j
/-- the reference has remembered an act; its court is what it may be -/
def actF (M1 M2 : zM) (h : Nat) : Prop := M2.1 0 7 = nI (min 12 (h + 1)) ∧ (∀ o j, irr o j = false → o ≠ 5 → ¬ (o = 0 ∧ j = 7) → ¬ (o = 1 ∧ j < 372) → M2.1 o j = M1.1 o j ∧ M2.2 o j = M1.2 o j) ∧
  (∀ j, j < 372 → M2.1 5 (372 * (min 12 (h + 1) - 1) + j) = M1.1 1 j) ∧ (∀ r j, r + 1 < min 12 (h + 1) → j < 372 → M2.1 5 (372 * r + j) = M1.1 5 (372 * (r + (h + 1 - min 12 (h + 1))) + j))
theorem ble_f {a b : Nat} (h : b < a) : Nat.ble a b = false := by
  cases hh : Nat.ble a b with
  | false => rfl
  | true => exact absurd (Nat.le_of_ble_eq_true hh) (by omega)
theorem irr_far {o j : Nat} (h0 : o ≠ 0) (h20 : o ≠ 20) (h : (o < 3 ∨ 4 < o) ∧ (o < 7 ∨ 18 < o) ∧ (o < 22 ∨ 28 < o) ∧ (o < 34 ∨ 35 < o) ∧ (o < 41 ∨ 42 < o) ∧ (o < 44 ∨ 58 < o) ∧ (o < 75 ∨ 88 < o)) : irr o j = false := by
  have key : ∀ a b, (o < a ∨ b < o) → (Nat.ble a o && Nat.ble o b) = false := fun a b z => by
    rcases z with z | z
    · rw [ble_f z]; rfl
    · rw [ble_f z, Bool.and_false]
  unfold irr
  split
  · exact absurd rfl h0
  · exact absurd rfl h20
  · rw [key _ _ h.1, key _ _ h.2.1, key _ _ h.2.2.1, key _ _ h.2.2.2.1, key _ _ h.2.2.2.2.1, key _ _ h.2.2.2.2.2.1, key _ _ h.2.2.2.2.2.2]
    rfl
theorem irr_hi {o j : Nat} (h : 89 ≤ o) : irr o j = false := irr_far (by omega) (by omega) (by omega)
theorem irr_now {o j : Nat} (h : 59 ≤ o) (h2 : o < 75) : irr o j = false := irr_far (by omega) (by omega) (by omega)
theorem zpi_r {M : zM} {o j : Nat} (h : irr o j = false) : (zpi M).1 o j = M.1 o j := by
  show (bif irr o j then 0 else M.1 o j) = _
  rw [h]; rfl
theorem zpi_rL {M : zM} {o j : Nat} (h : irr o j = false) : (zpi M).2 o j = M.2 o j := by
  show (bif irr o j then 0 else M.2 o j) = _
  rw [h]; rfl
theorem zc_lo (i : Nat) : 103 ≤ zcourt i := by unfold zcourt; omega
theorem Rel.his {M : zM} (h : Rel M) : hisR M := by
  obtain ⟨n, nx, a1, a2, a3, a4, a5, a6⟩ := h.2.2.2.2.2.2
  refine ⟨n, nx, a1, a2, a3, a4, a5, fun k hk => ?_⟩
  obtain ⟨b1, b2, b3⟩ := a6 k hk
  have hz := zc_lo ((nx + 11 - k) % 12)
  exact ⟨b1, cR_same (fun o j h1 h2 => ⟨(zpi_r (irr_hi (by omega))).symm, (zpi_rL (irr_hi (by omega))).symm⟩) b1 b2, b3⟩
theorem Rel.of {M : zM} (h : Rel0 M) : Rel M := by
  obtain ⟨h1, h2, h3, h4, h5, h6, n, nx, a1, a2, a3, a4, a5, a6⟩ := h
  refine ⟨h1, h2, h3, h4, h5, h6, n, nx, a1, a2, a3, a4, a5, fun k hk => ?_⟩
  obtain ⟨b1, b2, b3⟩ := a6 k hk
  have hz := zc_lo ((nx + 11 - k) % 12)
  exact ⟨b1, cR_same (fun o j h1 h2 => ⟨zpi_r (irr_hi (by omega)), zpi_rL (irr_hi (by omega))⟩) b1 b2, b3⟩
theorem imgR_same {M M' : zM} (h : imgR M) (e1 : M'.1 19 12 = M.1 19 12) (e2 : M'.1 0 6 = M.1 0 6) (e3 : ∀ j, M'.1 2 j = M.1 2 j) (e4 : ∀ o j, 89 ≤ o → o < 103 → M'.1 o j = M.1 o j ∧ M'.2 o j = M.2 o j) (e5 : ∀ o j, 29 ≤ o → o < 34 → M'.1 o j = M.1 o j) : imgR M' := by
  unfold imgR at h ⊢
  rw [e1, e2]
  refine ⟨h.1, h.2.imp id (fun z => ⟨z.1, okF_f (fun j _ => e3 j) z.2.1, ?_, ?_⟩)⟩
  · exact cR_same (fun o j h1 h2 => e4 o j h1 h2) (okF_f (fun j _ => e3 j) z.2.1) (cR_f (fun j _ => e3 j) z.2.1 z.2.2.1)
  · exact lawR_same (e3 _) (fun j _ => e3 _) (e5 _ _ (by omega) (by omega)) (fun i j _ _ _ => e5 _ _ (by omega) (by omega)) (fun j _ => e5 _ _ (by omega) (by omega)) z.2.2.2
theorem tapeR_same {M M' : zM} (h : tapeR M) (e1 : M'.1 20 1 = M.1 20 1) (e2 : M'.1 0 9 = M.1 0 9) (e3 : ∀ j, M'.1 21 j = M.1 21 j) (e4 : ∀ j, M'.1 6 j = M.1 6 j) : tapeR M' := by
  obtain ⟨n, a1, a2, a3, a4⟩ := h
  refine ⟨n, a1, by rw [e1]; exact a2, by rw [e2]; exact a3, fun j hj => ?_⟩
  rw [e3, e4]; exact a4 j hj
theorem Rel.act {M M1 M2 : zM} (h : Rel M) (a : actC M M1) (b : ∀ n, n ≤ 12 → M.1 0 7 = nI n → actF M1 M2 n) (hk : okF (M2.1 1)) (hc : cR M1 61 (M2.1 1)) (h5 : M2.1 1 5 = M.1 1 5) : Rel M2 := by
  obtain ⟨n, nx, a1, a2, a3, a4, a5, a6, a7, a8, a9⟩ := a
  obtain ⟨b1, b2, b3, b4⟩ := b n a1 a3
  have hz := zc_lo nx
  have g : ∀ o j, irr o j = false → o ≠ 5 → o ≠ 59 → ¬ (o = 0 ∧ j = 7) → ¬ (o = 1 ∧ j < 372) → (o < 61 ∨ 75 ≤ o) → (o < zcourt nx ∨ zcourt nx + 14 ≤ o) → M2.1 o j = M.1 o j ∧ M2.2 o j = M.2 o j := fun o j h1 h2 h3 h4 h5 h6 h7 => ⟨(b2 o j h1 h2 h4 h5).1.trans (a9 o j h1 h3 h6 h7).1, (b2 o j h1 h2 h4 h5).2.trans (a9 o j h1 h3 h6 h7).2⟩
  have w1 : ∀ j, M1.1 1 j = M.1 1 j := fun j => (a9 1 j rfl (by decide) (by omega) (by omega)).1
  refine Rel.of ⟨hk, ?_, ?_, ?_, ?_, ?_, ?_⟩
  · exact cR_same (fun o j h1 h2 => b2 o j (irr_now (by omega) (by omega)) (by omega) (by omega) (by omega)) hk hc
  · refine lawR_same h5 (fun j hj => (g 1 _ rfl (by decide) (by decide) (by omega) (by omega) (by omega) (by omega)).1) (g 36 6 rfl (by decide) (by decide) (by omega) (by omega) (by omega) (by omega)).1 (fun i j h1 h2 h3 => (g _ j (irr_far (by omega) (by omega) (by omega)) (by omega) (by omega) (by omega) (by omega) (by omega) (by omega)).1) (fun j hj => (g _ j rfl (by decide) (by decide) (by omega) (by omega) (by omega) (by omega)).1) h.law
  · exact tapeR_same h.tape (g 20 1 rfl (by decide) (by decide) (by omega) (by omega) (by omega) (by omega)).1 (g 0 9 rfl (by decide) (by decide) (by omega) (by omega) (by omega) (by omega)).1 (fun j => (g 21 j rfl (by decide) (by decide) (by omega) (by omega) (by omega) (by omega)).1) (fun j => (g 6 j rfl (by decide) (by decide) (by omega) (by omega) (by omega) (by omega)).1)
  · rw [(g 19 11 rfl (by decide) (by decide) (by omega) (by omega) (by omega) (by omega)).1, (g 0 14 rfl (by decide) (by decide) (by omega) (by omega) (by omega) (by omega)).1]
    exact h.wrong
  · exact imgR_same h.img (g 19 12 rfl (by decide) (by decide) (by omega) (by omega) (by omega) (by omega)).1 (g 0 6 rfl (by decide) (by decide) (by omega) (by omega) (by omega) (by omega)).1 (fun j => (g 2 j rfl (by decide) (by decide) (by omega) (by omega) (by omega) (by omega)).1) (fun o j h1 h2 => g o j (irr_hi (by omega)) (by omega) (by omega) (by omega) (by omega) (by omega) (by omega)) (fun o j h1 h2 => (g o j (irr_far (by omega) (by omega) (by omega)) (by omega) (by omega) (by omega) (by omega) (by omega) (by omega)).1)
  · obtain ⟨n', nx', c1, c2, c3, c4, c5, c6⟩ := h.his
    have en : n' = n := (nI_eq (by omega) (by omega)).mp (c3.symm.trans a3)
    have ex : nx' = nx := (nI_eq (by omega) (by omega)).mp (c5.symm.trans a5)
    subst en ex
    refine ⟨min 12 (n' + 1), (nx' + 1) % 12, by omega, by omega, b1, ?_, ?_, fun k hk => ?_⟩
    · rw [(b2 59 1 rfl (by decide) (by omega) (by omega)).1]; exact a7
    · rw [(b2 59 2 rfl (by decide) (by omega) (by omega)).1]; exact a6
    · by_cases k0 : k = 0
      · subst k0
        rw [show ((nx' + 1) % 12 + 11 - 0) % 12 = nx' by omega]
        have er : ∀ j, j < 372 → M2.1 5 (372 * (min 12 (n' + 1) - 1 - 0) + j) = M.1 1 j := fun j hj => by rw [Nat.sub_zero, b3 j hj, w1]
        have hk1 := okF_f er h.ok
        refine ⟨hk1, ?_, ?_⟩
        · refine cR_f er h.ok ?_
          refine cR_copy h.ok h.now ?_
          obtain ⟨d1, d2, d3, ⟨d4, d5⟩, d6, d7, d8, d9, d10⟩ := a8
          have q : ∀ i j, i < 14 → M2.1 (zcourt nx' + i) j = M1.1 (zcourt nx' + i) j ∧ M2.2 (zcourt nx' + i) j = M1.2 (zcourt nx' + i) j := fun i j hi => b2 _ j (irr_hi (by omega)) (by omega) (by omega) (by omega)
          refine ⟨fun j h1 h2 => (q 0 j (by decide)).1.trans (d1 j h1 h2), by rw [(q 1 _ (by decide)).1]; exact d2, fun i j h1 h2 h3 => by rw [(q i j (by omega)).1]; exact d3 i j h1 h2 h3, ⟨by rw [(q 8 _ (by decide)).1]; exact d4, by rw [(q 8 _ (by decide)).1]; exact d5⟩, fun j hj => by rw [(q 9 j (by decide)).2]; exact d6 j hj, fun j hj => by rw [(q 10 j (by decide)).1]; exact d7 j hj, fun j hj => by rw [(q 11 j (by decide)).1]; exact d8 j hj, fun j hj => by rw [(q 12 j (by decide)).1]; exact d9 j hj, fun j hj => by rw [(q 13 j (by decide)).1]; exact d10 j hj⟩
        · rw [er 5 (by decide), h5]
      · obtain ⟨k', rfl⟩ : ∃ k', k = k' + 1 := ⟨k - 1, by omega⟩
        obtain ⟨f1, f2, f3⟩ := c6 k' (by omega)
        have ei : ((nx' + 1) % 12 + 11 - (k' + 1)) % 12 = (nx' + 11 - k') % 12 := by omega
        have ne : (nx' + 11 - k') % 12 ≠ nx' := by omega
        have hzz : zcourt ((nx' + 11 - k') % 12) + 14 ≤ zcourt nx' ∨ zcourt nx' + 14 ≤ zcourt ((nx' + 11 - k') % 12) := by unfold zcourt; omega
        have hz2 := zc_lo ((nx' + 11 - k') % 12)
        rw [ei]
        have er : ∀ j, j < 372 → M2.1 5 (372 * (min 12 (n' + 1) - 1 - (k' + 1)) + j) = M.1 5 (372 * (n' - 1 - k') + j) := fun j hj => by
          rw [b4 _ j (by omega) hj, show min 12 (n' + 1) - 1 - (k' + 1) + (n' + 1 - min 12 (n' + 1)) = n' - 1 - k' by omega]
          exact (a9 5 _ rfl (by decide) (by omega) (by omega)).1
        have hk1 := okF_f er f1
        refine ⟨hk1, ?_, ?_⟩
        · refine cR_f er f1 (cR_same (fun o j h1 h2 => g o j (irr_hi (by omega)) (by omega) (by omega) (by omega) (by omega) (by omega) (by omega)) f1 f2)
        · rw [er 5 (by decide), h5]; exact f3
theorem rmb_F {M M2 : zM} {n : Nat} (hn : n ≤ 12) (h7 : M.1 0 7 = nI n) (h : ∀ o j, irr o j = false → ¬ (o = 1 ∧ j < 372) → M2.1 o j = (rmb M n).1 o j ∧ M2.2 o j = (rmb M n).2 o j) : actF M M2 n := by
  refine ⟨?_, fun o j h1 h2 h3 h4 => ?_, fun j hj => ?_, fun r j hr hj => ?_⟩
  · rw [(h 0 7 rfl (by omega)).1]
    unfold rmb
    by_cases c : n = 12
    · subst c
      rw [if_pos rfl, zcp_out (Or.inl (by decide)), zcp_out (Or.inl (by decide))]
      exact h7
    · rw [if_neg c, zcp_out (Or.inl (by decide)), zup_s, show min 12 (n + 1) = n + 1 by omega]
  · rw [(h o j h1 h4).1, (h o j h1 h4).2]
    unfold rmb
    by_cases c : n = 12
    · rw [if_pos c, zcp_out (Or.inl h2), zcp_out (Or.inl h2)]
      exact ⟨rfl, rfl⟩
    · rw [if_neg c, zcp_out (Or.inl h2), zup_n (by omega)]
      exact ⟨rfl, rfl⟩
  · rw [(h 5 _ rfl (by omega)).1]
    unfold rmb
    by_cases c : n = 12
    · subst c
      rw [if_pos rfl, zcp_in (by omega) (by omega), zcp_out (Or.inl (by decide))]
      exact congrArg (M.1 1) (by omega)
    · rw [if_neg c, zcp_in (by omega) (by omega), zup_o (by decide)]
      exact congrArg (M.1 1) (by omega)
  · rw [(h 5 _ rfl (by omega)).1]
    unfold rmb
    by_cases c : n = 12
    · subst c
      rw [if_pos rfl, zcp_out (by omega), zcp_in (by omega) (by omega)]
      exact congrArg (M.1 5) (by omega)
    · rw [if_neg c, zcp_out (by omega), zup_o (by decide)]
      exact congrArg (M.1 5) (by omega)
end HI
