/-! ===== bits of ints ===== -/
def bt (x : Int32) (i : Nat) : Bool := x.toBitVec.getLsbD i
theorem bt_ext {x y : Int32} (h : ∀ i, i < 32 → bt x i = bt y i) : x = y := Int32.toBitVec_inj.1 (BitVec.eq_of_getLsbD_eq h)
theorem bt_hi {x : Int32} {i : Nat} (h : 32 ≤ i) : bt x i = false := BitVec.getLsbD_of_ge _ _ h
theorem bt_and (x y : Int32) (i : Nat) : bt (x &&& y) i = (bt x i && bt y i) := BitVec.getLsbD_and
theorem bt_or (x y : Int32) (i : Nat) : bt (x ||| y) i = (bt x i || bt y i) := BitVec.getLsbD_or
theorem bt_xor (x y : Int32) (i : Nat) : bt (x ^^^ y) i = (bt x i ^^ bt y i) := BitVec.getLsbD_xor
theorem bt_nI {n i : Nat} (h : i < 32) : bt (nI n) i = n.testBit i := by
  show (BitVec.ofNat 32 n).getLsbD i = _
  rw [BitVec.getLsbD_ofNat]
  simp [h]
theorem bt_0 (i : Nat) : bt 0 i = false := by
  show (BitVec.ofNat 32 0).getLsbD i = false
  simp
theorem bt_m1 {i : Nat} (h : i < 32) : bt (-1) i = true := by
  show (BitVec.ofInt 32 (-1)).getLsbD i = true
  have : ∀ j : Fin 32, (BitVec.ofInt 32 (-1)).getLsbD j.val = true := by decide +kernel
  exact this ⟨i, h⟩
theorem sh31 {t : Nat} (h : t < 32) : nI t &&& 31 = nI t := by
  have : ∀ j : Fin 32, nI j.val &&& 31 = nI j.val := by decide +kernel
  exact this ⟨t, h⟩
theorem shm {t : Nat} (h : t < 32) : ((nI t).toBitVec.smod 32).toNat = t := by
  have : ∀ j : Fin 32, ((nI j.val).toBitVec.smod 32).toNat = j.val := by decide +kernel
  exact this ⟨t, h⟩
theorem bt_shl {x : Int32} {t i : Nat} (h : t < 32) : bt (x <<< (nI t &&& 31)) i = (decide (i < 32) && !decide (i < t) && bt x (i - t)) := by
  rw [sh31 h]
  show (x.toBitVec <<< ((nI t).toBitVec.smod 32)).getLsbD i = _
  rw [BitVec.shiftLeft_eq', shm h, BitVec.getLsbD_shiftLeft]
  rfl
theorem bt_shr {x : Int32} {t i : Nat} (h : t < 32) (hi : i + t < 32) : bt (x >>> (nI t &&& 31)) i = bt x (t + i) := by
  rw [sh31 h]
  show (x.toBitVec.sshiftRight' ((nI t).toBitVec.smod 32)).getLsbD i = _
  rw [BitVec.sshiftRight_eq', shm h, BitVec.getLsbD_sshiftRight]
  rw [if_pos (by omega)]
  have : decide (32 ≤ i) = false := by simp; omega
  rw [this]
  rfl
theorem bt_one (i : Nat) : bt 1 i = decide (i = 0) := by
  by_cases h : i < 32
  · have : ∀ j : Fin 32, bt 1 j.val = decide (j.val = 0) := by decide +kernel
    exact this ⟨i, h⟩
  · rw [bt_hi (by omega)]
    symm
    simp
    omega
theorem bt_bit {t i : Nat} (h : t < 32) : bt (1 <<< (nI t &&& 31)) i = decide (i = t) := by
  rw [bt_shl h, bt_one]
  by_cases c : i = t
  · subst c; simp [h]
  · by_cases c2 : i < t
    · simp [c2, c]
    · have : i - t ≠ 0 := by omega
      simp [this, c]
theorem and1 (x : Int32) : x &&& 1 = if bt x 0 then 1 else 0 := by
  apply bt_ext
  intro i hi
  rw [bt_and, bt_one]
  by_cases c : i = 0
  · subst c
    cases h : bt x 0 <;> simp [bt_0, bt_one]
  · cases h : bt x 0 <;> simp [bt_0, bt_one, c]
theorem has_iff {x : Int32} {k : Nat} (h : k < 32) : zhas x (nI k) ↔ bt x k = true := by
  unfold zhas
  rw [and1, bt_shr h (by omega), Nat.add_zero]
  cases bt x k <;> simp
theorem bt_orI (g : Nat → Int32) (i : Nat) : ∀ n, bt (orI g n) i = true ↔ ∃ t, t < n ∧ bt (g t) i = true
  | 0 => by
    rw [orI, bt_0]
    simp
  | n + 1 => by
    rw [orI, bt_or, Bool.or_eq_true, bt_orI g i n]
    constructor
    · rintro (⟨t, h1, h2⟩ | h)
      · exact ⟨t, by omega, h2⟩
      · exact ⟨n, by omega, h⟩
    · rintro ⟨t, h1, h2⟩
      by_cases c : t = n
      · subst c; exact Or.inr h2
      · exact Or.inl ⟨t, by omega, h2⟩
theorem isN1 {x : Int32} (h : isN x 1) : x = 0 ∨ x = 1 := by
  obtain ⟨n, h1, rfl⟩ := h
  have : n = 0 ∨ n = 1 := by omega
  rcases this with rfl | rfl
  · exact Or.inl rfl
  · exact Or.inr rfl
theorem bt_so {f : zRow} (hk : okF f) (i : Nat) : bt (soF f) i = true ↔ i < tN f ∧ f (54 + 3 * i + 2) = 1 := by
  have ht := hk.t.2
  unfold soF
  rw [bt_orI]
  constructor
  · rintro ⟨t, h1, h2⟩
    have h3 := isN1 (hk.2.2.1 t h1).2.2.2
    rw [bt_shl (by omega)] at h2
    rcases h3 with h3 | h3
    · rw [h3, bt_0] at h2
      simp at h2
    · rw [h3, bt_one] at h2
      simp at h2
      have : i = t := by omega
      subst this
      exact ⟨h1, h3⟩
  · rintro ⟨h1, h2⟩
    refine ⟨i, h1, ?_⟩
    rw [bt_shl (by omega), h2, bt_one]
    simp
    omega
