/-! ===== the tape used up; rows told; wrong, shades ===== -/
def usM (M : zM) : zM := zup (zup (zup (zup M 0 0 0) 0 11 (M.1 0 9)) 0 9 0) 0 10 0
section USE
variable {E : zEv} {D : Nat} {px : String → zM → Prop} {M : zM} {K : zM → Prop} {f : zRow}
theorem s_X12_uses {post : zM → Prop} (hp : post (usM M)) : zCv E jX12_uses D 0 [.ref 0] M post px := by
  refine e_X12_uses (fun M1 e1 M3 e3 M5 e5 M7 e7 => ?_)
  have : M1.1 0 9 = M.1 0 9 := by rw [e1, zup_n (Or.inr (by decide))]
  rw [this] at e3
  rw [e7, e5, e3, e1]
  exact hp
theorem us_o {o : Nat} (h : o ≠ 0) : (usM M).1 o = M.1 o := by
  unfold usM
  rw [zup_o h, zup_o h, zup_o h, zup_o h]
theorem us_00 : (usM M).1 0 0 = 0 := rfl
theorem us_11 : (usM M).1 0 11 = M.1 0 9 := rfl
theorem us_L : (usM M).2 = M.2 := rfl
/-- what the class leaves of the tape -/
def uC (M4 M : zM) : Prop := M4.1 20 1 = 0 ∧ ∀ o j, irr o j = false → ¬ (o = 20 ∧ j = 1) → M4.1 o j = M.1 o j ∧ M4.2 o j = M.2 o j
theorem uC.of {M4 M : zM} (h : zpi M4 = zpi (zup M 20 1 0)) : uC M4 M := by
  refine ⟨?_, fun o j h1 h2 => ?_⟩
  · rw [zpi_at h rfl]; rfl
  · rw [zpi_at h h1, zpi_atL h h1, zup_n (by omega)]
    exact ⟨rfl, rfl⟩
theorem uC.w {M4 M : zM} (h : uC M4 M) : M4.1 1 = M.1 1 := funext fun j => (h.2 1 j rfl (by omega)).1
theorem us_rel {M4 : zM} (h : Rel M) (hu : uC M4 M) : Rel (usM M4) := by
  obtain ⟨n, hn, t1, t2, t3⟩ := h.tape
  refine h.tp (fun o j h1 h2 h3 h4 h5 _ _ => ?_) ⟨0, by omega, ?_, rfl, fun j hj => ?_⟩ ?_
  · by_cases c : o = 0
    · subst c
      have hj : j ≠ 0 ∧ j ≠ 10 ∧ j ≠ 11 := ⟨(by rintro rfl; cases h1), (by rintro rfl; cases h1), (by rintro rfl; cases h1)⟩
      refine ⟨?_, (hu.2 0 j h1 (by omega)).2⟩
      unfold usM
      rw [zup_n (by omega), zup_n (by omega), zup_n (by omega), zup_n (by omega)]
      exact (hu.2 0 j h1 (by omega)).1
    · rw [us_o c, us_L]
      exact hu.2 o j h1 h4
  · rw [us_o (by decide)]; exact hu.1
  · rw [us_o (by decide), us_o (by decide), (hu.2 21 j rfl (by omega)).1, (hu.2 6 j rfl (by omega)).1]
    exact t3 j hj
  · rw [us_o (by decide), (hu.2 19 11 rfl (by omega)).1, show (usM M4).1 0 14 = M4.1 0 14 from rfl, (hu.2 0 14 rfl (by omega)).1]
    exact h.wrong
/-- the bytes told -/
abbrev byF (M : zM) (j : Nat) : Nat := tn (M.1 21 j)
def sb (b : Nat) : Int32 := (nI b).toInt8.toInt32
theorem Rel.by (h : Rel M) {j : Nat} (hj : j < 400) : M.1 21 j = nI (byF M j) ∧ M.1 6 j = sb (byF M j) ∧ byF M j < 256 := by
  obtain ⟨n, hn, t1, t2, t3⟩ := h.tape
  obtain ⟨v, hv, e1, e2⟩ := t3 j hj
  have e : byF M j = v := by unfold byF; rw [e1, tn_nI (by omega)]
  rw [e]
  exact ⟨e1, e2, hv⟩
theorem sb_lo {b : Nat} (h : b < 128) : sb b = nI b := fa_byte_small h
theorem sb_hi {b : Nat} (h : 128 ≤ b) (h2 : b < 256) : sb b < 0 := by
  have := (by decide +kernel : ∀ j : Fin 256, 128 ≤ j.val → (nI j.val).toInt8.toInt32 < 0) ⟨b, h2⟩ h
  exact this
theorem sb_zv {b n : Nat} (hb : b < 256) (hn : n ≤ 100) : zv (sb b) n ↔ b < n := by
  by_cases c : b < 128
  · rw [sb_lo c]
    exact ⟨fun h => (nI_ltI (by omega) (by omega)).mp h.2, fun h => zv.of h (by omega)⟩
  · exact ⟨fun h => absurd (sb_hi (by omega) hb) h.1, fun h => by omega⟩
theorem sb_zr {b : Nat} (hb : b < 256) : zr (sb b) 0 99 ↔ b ≤ 99 := by
  by_cases c : b < 128
  · rw [sb_lo c]
    exact ⟨fun h => (nI_leI (by omega) (by omega)).mp h.2, fun h => zr_of (by omega) h (by decide)⟩
  · exact ⟨fun h => absurd (sb_hi (by omega) hb) h.1, fun h => by omega⟩
theorem sb_eq {b w : Nat} (hb : b < 256) (hw : w < 128) : sb b = nI w ↔ b = w := by
  by_cases c : b < 128
  · rw [sb_lo c]
    exact nI_eq (by omega) (by omega)
  · exact ⟨fun h => absurd (sb_hi (by omega) hb) (by rw [h]; exact nI_pos (by omega)), fun h => by omega⟩
def rwOK (n A B C : Nat) (b : Nat → Nat) : Prop := n % 3 = 0 ∧ n ≤ 45 ∧ ∀ r, r < n / 3 → b (3 * r) < A ∧ b (3 * r + 1) < B ∧ b (3 * r + 2) ≤ C
theorem s_X9_told {post : Int32 → zM → Prop} {r p : Nat} (hr : 3 * r + p < 400) (hp : post (M.1 21 (3 * r + p)) M) : zCi E jX9_told D 0 [.ref 20, .int (nI r), .int (nI p)] M post px := by
  refine e_X9_told ?_
  rw [show (3 : Int32) * nI r + nI p = nI (3 * r + p) by rw [show (3 : Int32) = nI 3 from rfl, pk_mul, nI_add], nI_clamp (by omega)]
  exact ⟨fun z => absurd z (nI_pos (by omega)), fun _ => ⟨fun _ => ⟨pk_in _ _ hr, t_X9_told_27 hp⟩, fun z => absurd (nI_lt hr (by decide)) z⟩⟩
theorem s_X11_needRows {post : Int32 → zM → Prop} {n A B C : Nat} (hb : ∀ j, j < 400 → M.1 21 j = nI (byF M j) ∧ byF M j < 256) (hn : n ≤ 400) (hA : A ≤ 256) (hB : B ≤ 256) (hC : C ≤ 256) (h0 : rwOK n A B C (byF M) → post (nI (n / 3)) M) (h1 : ¬ rwOK n A B C (byF M) → px "java/lang/IllegalArgumentException" M) : zCi E jX11_needRows (D + 1) 1 [.ref 19, .int (nI n), .int (nI A), .int (nI B), .int (nI C)] M post px := by
  have ed : nI n / 3 = nI (n / 3) := pk_div (d := 3) (by omega) (by decide) (by decide)
  have er : zrem (nI n) 3 = nI (n % 3) := pk_rem (d := 3) (by omega) (by decide) (by decide)
  refine e_X11_needRows ?_
  rw [ed, er]
  have bad : ∀ i, ¬ rwOK n A B C (byF M) → w_X11_needRows_27 E D post px (nI A) (nI B) (nI C) (nI (n / 3)) 0 i M := fun i hno => by
    have b95 : w_X11_needRows_95 E D post px (nI (n / 3)) 0 M := t_X11_needRows_95 ⟨fun z => absurd rfl z, fun _ => h1 hno⟩
    exact t_X11_needRows_27 ⟨fun _ => b95, fun _ => ⟨fun _ => b95, fun z => absurd rfl z⟩⟩
  have loop : n % 3 = 0 → n ≤ 45 → w_X11_needRows_27 E D post px (nI A) (nI B) (nI C) (nI (n / 3)) 1 0 M := fun g1 g2 => by
    refine zup_loop (fun i => (∀ r, r < i → byF M (3 * r) < A ∧ byF M (3 * r + 1) < B ∧ byF M (3 * r + 2) ≤ C) → w_X11_needRows_27 E D post px (nI A) (nI B) (nI C) (nI (n / 3)) 1 (nI i) M) (n / 3) (fun i hi ih hr => ?_) (fun hr => ?_) 0 (by omega) (fun r hr => absurd hr (by omega))
    · have no : ¬ (byF M (3 * i) < A ∧ byF M (3 * i + 1) < B ∧ byF M (3 * i + 2) ≤ C) → w_X11_needRows_86 E D post px (nI A) (nI B) (nI C) (nI (n / 3)) (nI i) M := fun hh => t_X11_needRows_86 (t_X11_needRows_87 (bad _ (fun q => hh (q.2.2 i hi))))
      have b0 := hb (3 * i) (by omega)
      have b1 := hb (3 * i + 1) (by omega)
      have b2 := hb (3 * i + 2) (by omega)
      refine t_X11_needRows_27 (pk_le (n / 3) i (fun z => absurd z (by omega)) (fun _ => z1B (s_X9_told (p := 0) (by omega) ?_)))
      rw [Nat.add_zero, b0.1]
      refine pk_le A (byF M (3 * i)) (fun z => no (by omega)) (fun z0 => s_X9_told (p := 1) (by omega) ?_)
      rw [b1.1]
      refine pk_le B (byF M (3 * i + 1)) (fun z => no (by omega)) (fun z1 => s_X9_told (p := 2) (by omega) ?_)
      rw [b2.1]
      refine pk_lt C (byF M (3 * i + 2)) (fun z => no (by omega)) (fun z2 => t_X11_needRows_87 ?_)
      rw [nI_1]
      refine ih (fun r hr' => ?_)
      by_cases c : r = i
      · rw [c]; exact ⟨z0, z1, z2⟩
      · exact hr r (by omega)
    · exact t_X11_needRows_27 (pk_le (n / 3) (n / 3) (fun _ => t_X11_needRows_95 (z1A (h0 ⟨g1, g2, hr⟩))) (fun z => absurd z (by omega)))
  refine pk_eq (n % 3) 0 (fun z => ?_) (fun z => ?_) |> fun y => ⟨y.2, y.1⟩
  · exact pk_lt 45 n (fun z2 => t_X11_needRows_21 (t_X11_needRows_22 (bad _ (fun q => by have := q.2.1; omega)))) (fun z2 => t_X11_needRows_22 (loop z z2))
  · exact t_X11_needRows_21 (t_X11_needRows_22 (bad _ (fun q => z q.1)))
theorem s_X12_isWritten {post : Int32 → zM → Prop} {n : Nat} (hf : M.1 1 = f) (hk : okF f) (b : Nat → Nat) (hb : ∀ j, j < 400 → M.1 6 j = sb (b j) ∧ b j < 256) (hn : n ≤ 400) (h11 : M.1 0 11 = nI n) (hp : post (bI (rwOK n (kN f) (wN f) 99 b)) M) : zCi E jX12_isWritten (D + 2) 0 [.ref 0] M post px := by
  have w5 := hk.w
  have k4 := hk.k
  have er : zrem (nI n) 3 = nI (n % 3) := pk_rem (d := 3) (by omega) (by decide) (by decide)
  refine e_X12_isWritten ?_
  rw [h11, er]
  have bad : ∀ i, ¬ rwOK n (kN f) (wN f) 99 b → w_X12_isWritten_26 E (D + 1) post px 0 i M := fun i hno => by
    have b95 : w_X12_isWritten_95 E (D + 1) post px 0 M := t_X12_isWritten_95 ⟨Or.inl rfl, by rw [bI_f hno] at hp; exact hp⟩
    exact t_X12_isWritten_26 ⟨fun _ => b95, fun _ => ⟨fun _ => b95, fun z => absurd rfl z⟩⟩
  have loop : n % 3 = 0 → n ≤ 45 → w_X12_isWritten_26 E (D + 1) post px 1 0 M := fun g1 g2 => by
    have key := zup_loop (fun i => (∀ r, r < i → b (3 * r) < kN f ∧ b (3 * r + 1) < wN f ∧ b (3 * r + 2) ≤ 99) → w_X12_isWritten_26 E (D + 1) post px 1 (nI (3 * i)) M) (n / 3) (fun i hi ih hr => ?_) (fun hr => ?_) 0 (by omega) (fun r hr => absurd hr (by omega))
    · exact key
    · have no : ¬ (b (3 * i) < kN f ∧ b (3 * i + 1) < wN f ∧ b (3 * i + 2) ≤ 99) → w_X12_isWritten_87 E (D + 1) post px (nI (3 * i)) M := fun hh => t_X12_isWritten_87 (t_X12_isWritten_88 (bad _ (fun q => hh (q.2.2 i hi))))
      have b0 := hb (3 * i) (by omega)
      have b1 := hb (3 * i + 1) (by omega)
      have b2 := hb (3 * i + 2) (by omega)
      refine t_X12_isWritten_26 (pk_le n (3 * i) (fun z => absurd z (by omega)) (fun _ => z1B ?_) h11)
      rw [nI_clamp (n := 3 * i) (by omega), nI_1, show nI (3 * i) + 2 = nI (3 * i + 2) from nI_add _ 2, nI_clamp (n := 3 * i + 1) (by omega), nI_clamp (n := 3 * i + 2) (by omega), b0.1]
      refine ⟨pk_in _ _ (show 3 * i < 400 by omega), s_X12_noWoman (n := kN f) (by rw [hf]; exact k4.1) (by omega) (fun z0 => z0B ⟨pk_in _ _ (show 3 * i + 1 < 400 by omega), ?_⟩) (fun z => z1A (no (fun q => z ((sb_zv b0.2 (by omega)).mpr q.1))))⟩
      rw [b1.1]
      refine s_X12_noWitness (n := wN f) (by rw [hf]; exact w5.1) (by omega) (fun z1 => z0B ⟨pk_in _ _ (show 3 * i + 2 < 400 by omega), ?_⟩) (fun z => z1A (no (fun q => z ((sb_zv b1.2 (by omega)).mpr q.2.1))))
      rw [b2.1]
      refine s_in_rg (a := 0) (b := 99) (fun z2 => z1B (t_X12_isWritten_88 ?_)) (fun z => z0A (no (fun q => z ((sb_zr b2.2).mpr q.2.2))))
      rw [show nI (3 * i) + 3 = nI (3 * (i + 1)) from nI_add _ 3]
      refine ih (fun r hr' => ?_)
      by_cases c : r = i
      · rw [c]; exact ⟨(sb_zv b0.2 (by omega)).mp z0, (sb_zv b1.2 (by omega)).mp z1, (sb_zr b2.2).mp z2⟩
      · exact hr r (by omega)
    · refine t_X12_isWritten_26 (pk_le n (3 * (n / 3)) (fun _ => t_X12_isWritten_95 ⟨Or.inr rfl, ?_⟩) (fun z => absurd z (by omega)) h11)
      rw [bI_t ⟨g1, g2, hr⟩] at hp
      exact hp
  refine pk_eq (n % 3) 0 (fun z => ?_) (fun z => ?_) |> fun y => ⟨y.2, y.1⟩
  · exact pk_lt 45 n (fun z2 => t_X12_isWritten_22 (t_X12_isWritten_23 (bad _ (fun q => by have := q.2.1; omega)))) (fun z2 => t_X12_isWritten_23 (loop z z2))
  · exact t_X12_isWritten_22 (t_X12_isWritten_23 (bad _ (fun q => z q.1)))
/-! shades left -/
def relR (b : Nat → Nat) (w : Nat) (left : Int32) (r : Nat) : Prop := b (3 * r + 1) = w ∧ ¬ zhas left (nI (b (3 * r)))
noncomputable def frI (P : Nat → Prop) (wr : Nat → Nat) : Nat → Nat
  | 0 => 0
  | r + 1 => @ite _ (P r) (Classical.propDecidable _) (max (frI P wr r) (wr r)) (frI P wr r)
noncomputable def toI (P : Nat → Prop) (wr sp : Nat → Nat) : Nat → Nat
  | 0 => 99
  | r + 1 => @ite _ (P r) (Classical.propDecidable _) (min (toI P wr sp r) (wr r + sp r - 1)) (toI P wr sp r)
theorem to_le {P : Nat → Prop} {wr sp : Nat → Nat} : ∀ r, toI P wr sp r ≤ 99
  | 0 => Nat.le_refl _
  | r + 1 => by
    have := to_le (P := P) (wr := wr) (sp := sp) r
    rw [toI]
    by_cases c : P r
    · rw [if_pos c]; omega
    · rw [if_neg c]; exact this
theorem fr_le {P : Nat → Prop} {wr : Nat → Nat} (h : ∀ r, wr r ≤ 255) : ∀ r, frI P wr r ≤ 255
  | 0 => by rw [frI]; omega
  | r + 1 => by
    have := fr_le (P := P) h r
    have := h r
    rw [frI]
    by_cases c : P r
    · rw [if_pos c]; omega
    · rw [if_neg c]; omega
theorem iv_N {a b : Nat} : ∀ n, cN (fun k => a ≤ k ∧ k ≤ b) n = min (b + 1) n - a
  | 0 => by rw [cN]; omega
  | n + 1 => by
    rw [cN, iv_N n]
    by_cases c : a ≤ n ∧ n ≤ b
    · rw [if_pos c]; omega
    · rw [if_neg c]; omega
theorem mul_iff {s x y : Nat} (hs : 0 < s) (hy : y / s * s = y) : x / s * s = y ↔ y ≤ x ∧ x < y + s := by
  constructor
  · intro h
    have h1 := Nat.div_mul_le_self x s
    have h2 : x < x / s * s + s := Nat.lt_div_mul_add hs
    omega
  · rintro ⟨h1, h2⟩
    have : x / s = y / s := Nat.div_eq_of_lt_le (by rw [hy]; exact h1) (by rw [Nat.succ_mul, hy]; exact h2)
    rw [this]; exact hy
noncomputable def slN (P : Nat → Prop) (wr sp : Nat → Nat) (R : Nat) : Nat := cN (fun x => ∀ r, r < R → P r → x / sp r * sp r = wr r) 100
theorem sl_bad {P : Nat → Prop} {wr sp : Nat → Nat} {R r : Nat} (hs : ∀ r, r < R → 0 < sp r) (hr : r < R) (h1 : P r) (h2 : ¬ wr r / sp r * sp r = wr r) : slN P wr sp R = 0 := by
  unfold slN
  have : ∀ n, cN (fun x => ∀ r, r < R → P r → x / sp r * sp r = wr r) n = 0 := by
    intro n
    induction n with
    | zero => rfl
    | succ n ih =>
      rw [cN, ih, if_neg (fun q => ?_)]
      have e := q r hr h1
      exact h2 (by rw [← e, Nat.mul_div_cancel _ (hs r hr)])
  exact this 100
theorem sl_ok {P : Nat → Prop} {wr sp : Nat → Nat} {R : Nat} (hs : ∀ r, r < R → 0 < sp r) (h : ∀ r, r < R → P r → wr r / sp r * sp r = wr r) : slN P wr sp R = toI P wr sp R + 1 - frI P wr R := by
  have key : ∀ i, i ≤ R → ∀ x, x < 100 → ((∀ r, r < i → P r → x / sp r * sp r = wr r) ↔ (frI P wr i ≤ x ∧ x ≤ toI P wr sp i)) := by
    intro i
    induction i with
    | zero => exact fun _ x hx => ⟨fun _ => ⟨by rw [frI]; omega, by rw [toI]; omega⟩, fun _ r hr => absurd hr (by omega)⟩
    | succ i ih =>
      intro hi x hx
      have ih' := ih (by omega) x hx
      have s0 := hs i (by omega)
      rw [frI, toI]
      by_cases c : P i
      · rw [if_pos c, if_pos c]
        have m := mul_iff (x := x) s0 (h i (by omega) c)
        constructor
        · intro q
          have q1 := ih'.mp (fun r hr => q r (by omega))
          have q2 := m.mp (q i (by omega) c)
          omega
        · intro q r hr hp
          by_cases cr : r = i
          · subst cr
            exact m.mpr (by omega)
          · exact ih'.mpr (by omega) r (by omega) hp
      · rw [if_neg c, if_neg c]
        constructor
        · exact fun q => ih'.mp (fun r hr => q r (by omega))
        · intro q r hr hp
          by_cases cr : r = i
          · subst cr; exact absurd hp c
          · exact ih'.mpr q r (by omega) hp
  unfold slN
  rw [cN_c (q := fun x => frI P wr R ≤ x ∧ x ≤ toI P wr sp R) (fun x hx => key R (Nat.le_refl _) x hx), iv_N]
  have := to_le (P := P) (wr := wr) (sp := sp) R
  omega
theorem max_sub {t a : Nat} (ht : t < 2 ^ 29) (ha : a < 2 ^ 29) : zmax 0 (nI t - nI a + 1) = nI (t + 1 - a) := by
  by_cases c : a ≤ t
  · rw [pk_sub c, nI_1, show (0 : Int32) = nI 0 from rfl, zmax_nI (by decide) (by omega), show max 0 (t - a + 1) = t + 1 - a by omega]
  · have h1 := pk_sub_toInt (a := t) (b := a) (by omega) (by omega)
    have e : nI t - nI a + 1 = nI (t + 1) - nI a := by
      rw [Int32.sub_eq_add_neg, i_arc, ← Int32.sub_eq_add_neg, nI_1]
    have h2 := pk_sub_toInt (a := t + 1) (b := a) (by omega) (by omega)
    rw [e, show t + 1 - a = 0 by omega]
    unfold zmax
    rw [if_neg (fun z => by
      rw [fa_lt, h2] at z
      have e0 : (0 : Int32).toInt = 0 := rfl
      omega)]
    rfl
theorem has_0 {x : Int32} {k : Nat} : (x >>> (nI k &&& 31)) &&& 1 = 0 ↔ ¬ zhas x (nI k) := by
  unfold zhas
  rw [and1]
  cases bt (x >>> (nI k &&& 31)) 0
  · exact ⟨fun _ => by decide, fun _ => rfl⟩
  · exact ⟨fun z => absurd z (by decide), fun z => absurd rfl z⟩
abbrev spF (f : zRow) (k : Nat) : Nat := tn (f (20 + k))
noncomputable abbrev slF (f : zRow) (b : Nat → Nat) (R w : Nat) (left : Int32) : Nat := slN (relR b w left) (fun r => b (3 * r + 2)) (fun r => spF f (b (3 * r))) R
theorem spE (hk : okF f) {k : Nat} (h : k < kN f) : f (20 + k) = nI (spF f k) ∧ 0 < spF f k ∧ spF f k ≤ 20 := by
  obtain ⟨⟨s, h1, h2⟩, h3⟩ := hk.2.2.2.2 k h
  have e : spF f k = s := by unfold spF; rw [h2, tn_nI (by omega)]
  have h4 : 0 < spF f k := h3
  rw [e] at h4 ⊢
  exact ⟨h2, h4, h1⟩
theorem s_X11_shadesLeft {post : Int32 → zM → Prop} {n w : Nat} {left : Int32} (hr : cR M 61 f) (hk : okF f) (hb : ∀ j, j < 400 → M.1 21 j = nI (byF M j) ∧ byF M j < 256) (hok : rwOK n (kN f) (wN f) 99 (byF M)) (hw : w < wN f) (hp : post (nI (slF f (byF M) (n / 3) w left)) M) : zCi E jX11_shadesLeft (D + 1) 0 [.ref 19, .int (nI (n / 3)), .int (nI w), .int left] M post px := by
  obtain ⟨g1, g2, g3⟩ := hok
  have k4 := hk.k.2
  have w5 := hk.w.2
  generalize hP : relR (byF M) w left = P
  have eP : ∀ r, P r ↔ relR (byF M) w left r := fun r => by rw [← hP]
  generalize hwr : (fun r => byF M (3 * r + 2)) = wr
  have ewr : ∀ r, wr r = byF M (3 * r + 2) := fun r => by rw [← hwr]
  generalize hsp : (fun r => spF f (byF M (3 * r))) = sp
  have esp : ∀ r, sp r = spF f (byF M (3 * r)) := fun r => by rw [← hsp]
  have hs : ∀ r, r < n / 3 → 0 < sp r := fun r hr' => by rw [esp]; exact (spE hk (g3 r hr').1).2.1
  have hp' : post (nI (slN P wr sp (n / 3))) M := by rw [← hP, ← hwr, ← hsp]; exact hp
  have frb : ∀ i, i ≤ n / 3 → frI P wr i ≤ 255 := by
    intro i
    induction i with
    | zero => intro _; rw [frI]; omega
    | succ i ih =>
      intro hi
      have := ih (by omega)
      have := (g3 i (by omega)).2.2
      rw [frI, ewr]
      by_cases c : P i
      · rw [if_pos c]; omega
      · rw [if_neg c]; omega
  refine e_X11_shadesLeft (zup_loop (fun i => (∀ r, r < i → P r → wr r / sp r * sp r = wr r) → w_X11_shadesLeft_10 E D post px (nI (n / 3)) (nI w) left (nI (frI P wr i)) (nI (toI P wr sp i)) (nI i) M) (n / 3) (fun i hi ih hgood => ?_) (fun hgood => ?_) 0 (by omega) (fun r hr' => absurd hr' (by omega)))
  · obtain ⟨c0, c1, c2⟩ := g3 i hi
    have b0 := hb (3 * i) (by omega)
    have b1 := hb (3 * i + 1) (by omega)
    have b2 := hb (3 * i + 2) (by omega)
    have skip : ¬ P i → w_X11_shadesLeft_115 E D post px (nI (n / 3)) (nI w) left (nI (frI P wr i)) (nI (toI P wr sp i)) (nI i) M := fun hn => t_X11_shadesLeft_115 (by
      rw [nI_1]
      have := ih (fun r hr' hp2 => by
        by_cases c : r = i
        · subst c; exact absurd hp2 hn
        · exact hgood r (by omega) hp2)
      rw [frI, toI, if_neg hn, if_neg hn] at this
      exact this)
    refine t_X11_shadesLeft_10 (pk_le (n / 3) i (fun z => absurd z (by omega)) (fun _ => s_X9_told (p := 0) (by omega) (s_X9_told (p := 1) (by omega) ?_)))
    rw [show M.1 21 (3 * i + 0) = nI (byF M (3 * i)) from b0.1, b1.1]
    refine pk_eq (byF M (3 * i + 1)) w (fun z => ?_) (fun z => skip (fun q => z ((eP i).mp q).1)) |> fun y => ⟨y.2, y.1⟩
    refine ⟨fun z2 => ⟨pk_in _ _ (show byF M (3 * i) < 4 by omega), s_X9_told (p := 2) (by omega) ?_⟩, fun z2 => skip (fun q => z2 (has_0.mpr ((eP i).mp q).2))⟩
    have hPi : P i := (eP i).mpr ⟨z, has_0.mp z2⟩
    obtain ⟨s1, s2, s3⟩ := spE hk c0
    have c74 : M.1 74 (byF M (3 * i)) = nI (spF f (byF M (3 * i))) := (hr.2.2.2.2.1 _ c0).trans s1
    rw [nI_clamp (n := byF M (3 * i)) (by omega), c74, b2.1]
    refine s_X11_readBy s2 s3 ?_
    have tl := to_le (P := P) (wr := wr) (sp := sp) i
    have fl := frb i (by omega)
    rw [pk_div (by omega) s2 (by omega), pk_mul]
    have hle : byF M (3 * i + 2) / spF f (byF M (3 * i)) * spF f (byF M (3 * i)) ≤ byF M (3 * i + 2) := Nat.div_mul_le_self _ _
    refine pk_eq (byF M (3 * i + 2) / spF f (byF M (3 * i)) * spF f (byF M (3 * i))) (byF M (3 * i + 2)) (fun z3 => t_X11_shadesLeft_115 ?_) (fun z3 => ?_)
    · rw [nI_1, zmax_nI (by omega) (by omega), nI_add, show nI (byF M (3 * i + 2) + spF f (byF M (3 * i))) - 1 = nI (byF M (3 * i + 2) + spF f (byF M (3 * i)) - 1) from pk_sub (b := 1) (by omega), zmin_nI (by omega) (by omega)]
      have := ih (fun r hr' hp2 => by
        by_cases c : r = i
        · subst c; rw [ewr, esp]; exact z3
        · exact hgood r (by omega) hp2)
      rw [frI, toI, if_pos hPi, if_pos hPi, ewr, esp] at this
      exact this
    · rw [sl_bad hs hi hPi (by rw [ewr, esp]; exact z3)] at hp'
      exact hp'
  · have tl := to_le (P := P) (wr := wr) (sp := sp) (n / 3)
    have fl := frb (n / 3) (Nat.le_refl _)
    refine t_X11_shadesLeft_10 (pk_le (n / 3) (n / 3) (fun _ => ?_) (fun z => absurd z (by omega)))
    rw [max_sub (by omega) (by omega), ← sl_ok hs hgood]
    exact hp'
theorem s_X12_asWritten {post : Int32 → zM → Prop} {n w x : Nat} {left : Int32} (hf : M.1 1 = f) (hk : okF f) (b : Nat → Nat) (hb : ∀ j, j < 400 → M.1 6 j = sb (b j) ∧ b j < 256) (h11 : M.1 0 11 = nI n) (hok : rwOK n (kN f) (wN f) 99 b) (hw : w < wN f) (hx : x < 100) (hp : post (bI (∀ r, r < n / 3 → relR b w left r → x / spF f (b (3 * r)) * spF f (b (3 * r)) = b (3 * r + 2))) M) : zCi E jX12_asWritten (D + 1) 0 [.ref 0, .int (nI w), .int (nI x), .int left] M post px := by
  obtain ⟨g1, g2, g3⟩ := hok
  have k4 := hk.k.2
  have w5 := hk.w.2
  generalize hQ : (fun r => relR b w left r → x / spF f (b (3 * r)) * spF f (b (3 * r)) = b (3 * r + 2)) = Q
  have eQ : ∀ r, Q r ↔ (relR b w left r → x / spF f (b (3 * r)) * spF f (b (3 * r)) = b (3 * r + 2)) := fun r => by rw [← hQ]
  have hp' : post (bI (∀ r, r < n / 3 → Q r)) M := by rw [← hQ]; exact hp
  have h00 : bI (∀ r, r < 0 → Q r) = 1 := bI_t (fun r hr => absurd hr (by omega))
  have key := zup_loop (fun i => w_X12_asWritten_6 E D post px (nI w) (nI x) left (bI (∀ r, r < i → Q r)) (nI (3 * i)) M) (n / 3) (fun i hi ih => ?_) ?_ 0 (by omega)
  · rw [h00] at key
    exact e_X12_asWritten key
  · obtain ⟨c0, c1, c2⟩ := g3 i hi
    have b0 := hb (3 * i) (by omega)
    have b1 := hb (3 * i + 1) (by omega)
    have b2 := hb (3 * i + 2) (by omega)
    have nx : ∀ v, v = bI (∀ r, r < i + 1 → Q r) → w_X12_asWritten_76 E D post px (nI w) (nI x) left (nI (3 * i)) v M := fun v hv => t_X12_asWritten_76 (by
      rw [show nI (3 * i) + 3 = nI (3 * (i + 1)) from nI_add _ 3, hv]
      exact ih)
    have yes : (∀ r, r < i → Q r) → Q i → w_X12_asWritten_71 E D post px (nI w) (nI x) left (nI (3 * i)) M := fun h1 h2 => t_X12_asWritten_71 (nx 1 (bI_t (fun r hr => by
      by_cases c : r = i
      · rw [c]; exact h2
      · exact h1 r (by omega))).symm)
    refine t_X12_asWritten_6 (pk_le n (3 * i) (fun z => absurd z (by omega)) (fun _ => ⟨fun z => t_X12_asWritten_75 (nx 0 (bI_f (fun q => bI_0.mp z (fun r hr => q r (by omega)))).symm), fun z => ?_⟩) h11)
    have old := bI_n0.mp z
    rw [nI_1, show nI (3 * i) + 2 = nI (3 * i + 2) from nI_add _ 2, nI_clamp (n := 3 * i) (by omega), nI_clamp (n := 3 * i + 1) (by omega), nI_clamp (n := 3 * i + 2) (by omega), b1.1, b0.1]
    refine ⟨pk_in _ _ (show 3 * i + 1 < 400 by omega), fun z1 => yes old ((eQ i).mpr (fun q => absurd ((sb_eq b1.2 (by omega)).mpr q.1) z1)), fun z1 => ⟨pk_in _ _ (show 3 * i < 400 by omega), s_X12_has ?_⟩⟩
    have ew : b (3 * i + 1) = w := (sb_eq b1.2 (by omega)).mp z1
    rw [sb_lo (by omega)]
    by_cases ch : zhas left (nI (b (3 * i)))
    · rw [if_pos ch]
      exact z1A (yes old ((eQ i).mpr (fun q => absurd ch q.2)))
    · rw [if_neg ch]
      obtain ⟨s1, s2, s3⟩ := spE hk c0
      refine z0B ⟨pk_in _ _ (show 3 * i < 400 by omega), ?_⟩
      rw [b0.1, sb_lo (by omega)]
      refine s_X12_readBy hf hk c0 ⟨pk_in _ _ (show 3 * i + 2 < 400 by omega), ?_⟩
      unfold rdF
      rw [s1, pk_div (by omega) s2 (by omega), pk_mul, b2.1, sb_lo (by omega)]
      have hle : x / spF f (b (3 * i)) * spF f (b (3 * i)) ≤ x := Nat.div_mul_le_self _ _
      refine pk_eq (x / spF f (b (3 * i)) * spF f (b (3 * i))) (b (3 * i + 2)) (fun z3 => yes old ((eQ i).mpr (fun _ => z3))) (fun z3 => t_X12_asWritten_75 (nx 0 (bI_f (fun q => z3 ((eQ i).mp (q i (by omega)) ⟨ew, ch⟩))).symm)) |> fun y => ⟨y.2, y.1⟩
  · exact t_X12_asWritten_6 (pk_le n (3 * (n / 3)) (fun _ => ⟨bI_01 _, hp'⟩) (fun z => absurd z (by omega)) h11)
theorem s_X12_shadesLeft {post : Int32 → zM → Prop} {n w : Nat} {left : Int32} (hf : M.1 1 = f) (hk : okF f) (b : Nat → Nat) (hb : ∀ j, j < 400 → M.1 6 j = sb (b j) ∧ b j < 256) (h11 : M.1 0 11 = nI n) (hok : rwOK n (kN f) (wN f) 99 b) (hw : w < wN f) (hp : post (nI (slF f b (n / 3) w left)) M) : zCi E jX12_shadesLeft (D + 2) 0 [.ref 0, .int (nI w), .int left] M post px := by
  refine e_X12_shadesLeft (zup_loop (fun i => w_X12_shadesLeft_5 E (D + 1) post px (nI w) left (cntI (fun x => ∀ r, r < n / 3 → relR b w left r → x / spF f (b (3 * r)) * spF f (b (3 * r)) = b (3 * r + 2)) i) (nI i) M) 100 (fun i hi ih => ?_) ?_ 0 (by omega))
  · refine t_X12_shadesLeft_5 (pk_lt 99 i (fun z => absurd z (by omega)) (fun _ => s_X12_asWritten hf hk b hb h11 hok hw hi ⟨fun z => t_X12_shadesLeft_29 ?_, fun z => t_X12_shadesLeft_29 ?_⟩))
    · rw [nI_1, cnt_0 (p := fun x => ∀ r, r < n / 3 → relR b w left r → x / spF f (b (3 * r)) * spF f (b (3 * r)) = b (3 * r + 2)) (bI_0.mp z)]; exact ih
    · rw [nI_1, cnt_y (p := fun x => ∀ r, r < n / 3 → relR b w left r → x / spF f (b (3 * r)) * spF f (b (3 * r)) = b (3 * r + 2)) (bI_n0.mp z)]; exact ih
  · refine t_X12_shadesLeft_5 (pk_lt 99 100 (fun _ => ?_) (fun z => absurd z (by omega)))
    rw [cN_I]
    exact hp
end USE
