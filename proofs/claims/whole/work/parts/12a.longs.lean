/-! ===== longs as sets, and how many are in one ===== -/
def btL (x : Int64) (i : Nat) : Bool := x.toBitVec.getLsbD i
theorem btL_ext {x y : Int64} (h : ∀ i, i < 64 → btL x i = btL y i) : x = y := Int64.toBitVec_inj.1 (BitVec.eq_of_getLsbD_eq h)
theorem btL_and (x y : Int64) (i : Nat) : btL (x &&& y) i = (btL x i && btL y i) := BitVec.getLsbD_and
theorem btL_or (x y : Int64) (i : Nat) : btL (x ||| y) i = (btL x i || btL y i) := BitVec.getLsbD_or
theorem btL_hi {x : Int64} {i : Nat} (h : 64 ≤ i) : btL x i = false := BitVec.getLsbD_of_ge _ _ h
theorem btL_0 (i : Nat) : btL 0 i = false := by
  show (BitVec.ofNat 64 0).getLsbD i = false
  simp
theorem btL_m1 {i : Nat} (h : i < 64) : btL (-1) i = true := by
  have : ∀ j : Fin 64, btL (-1) j.val = true := by decide +kernel
  exact this ⟨i, h⟩
theorem btL_bit {k i : Nat} (hk : k < 64) (hi : i < 64) : btL (zlshl 1 (nI k)) i = decide (i = k) := by
  have : ∀ k i : Fin 64, btL (zlshl 1 (nI k.val)) i.val = decide (i.val = k.val) := by decide +kernel
  exact this ⟨k, hk⟩ ⟨i, hi⟩
theorem btL_all {t i : Nat} (ht : t < 6) (hi : i < 64) : btL (zlshl 1 (nI (2 ^ t)) - 1) i = decide (i < 2 ^ t) := by
  have : ∀ (t : Fin 6) (i : Fin 64), btL (zlshl 1 (nI (2 ^ t.val)) - 1) i.val = decide (i.val < 2 ^ t.val) := by decide +kernel
  exact this ⟨t, ht⟩ ⟨i, hi⟩
theorem ush {k : Nat} (h : k < 64) : (nI k).toInt64.toUInt64 &&& Int64.toUInt64 63 = UInt64.ofNat k := by
  have : ∀ k : Fin 64, (nI k.val).toInt64.toUInt64 &&& Int64.toUInt64 63 = UInt64.ofNat k.val := by decide +kernel
  exact this ⟨k, h⟩
theorem ushm {k : Nat} (h : k < 64) : (UInt64.mod (UInt64.ofNat k) 64).toBitVec.toNat = k := by
  have : ∀ k : Fin 64, (UInt64.mod (UInt64.ofNat k.val) 64).toBitVec.toNat = k.val := by decide +kernel
  exact this ⟨k, h⟩
theorem shr_bv {x : Int64} {k : Nat} (h : k < 64) : (zlushr x (nI k)).toBitVec = x.toBitVec >>> k := by
  show (x.toUInt64 >>> ((nI k).toInt64.toUInt64 &&& Int64.toUInt64 63)).toBitVec = _
  rw [ush h]
  show x.toBitVec >>> (UInt64.mod (UInt64.ofNat k) 64).toBitVec = _
  rw [BitVec.ushiftRight_eq', ushm h]
theorem btL_shr {x : Int64} {k i : Nat} (h : k < 64) : btL (zlushr x (nI k)) i = btL x (k + i) := by
  show (zlushr x (nI k)).toBitVec.getLsbD i = _
  rw [shr_bv h, BitVec.getLsbD_ushiftRight]
  rfl
theorem btL_one (i : Nat) : btL 1 i = decide (i = 0) := by
  by_cases h : i < 64
  · have : ∀ j : Fin 64, btL 1 j.val = decide (j.val = 0) := by decide +kernel
    exact this ⟨i, h⟩
  · rw [btL_hi (by omega)]
    symm
    simp
    omega
theorem cmpL0 {x : Int64} : lg_cmp x 0 = 0 ↔ x = 0 := by
  unfold lg_cmp
  by_cases c : x > 0
  · rw [if_pos c]
    refine ⟨fun z => absurd z (by decide), fun z => ?_⟩
    rw [z] at c
    exact absurd c (by decide)
  · rw [if_neg c]
    by_cases e : x = 0
    · rw [if_pos e]; exact ⟨fun _ => e, fun _ => rfl⟩
    · rw [if_neg e]; exact ⟨fun z => absurd z (by decide), fun z => absurd z e⟩
theorem bitL {x : Int64} {k : Nat} (h : k < 64) : lg_cmp (zlushr x (nI k) &&& (1 : Int64)) 0 = 0 ↔ ¬ btL x k = true := by
  rw [cmpL0]
  have e0 : btL (zlushr x (nI k) &&& 1) 0 = btL x k := by rw [btL_and, btL_shr h, btL_one]; simp
  constructor
  · intro z y
    rw [z, btL_0, y] at e0
    cases e0
  · intro z
    refine btL_ext (fun i hi => ?_)
    rw [btL_0, btL_and, btL_one]
    by_cases c : i = 0
    · subst c
      rw [btL_shr h]
      have : btL x k = false := Bool.eq_false_iff.mpr z
      rw [Nat.add_zero, this]
      rfl
    · simp [c]
/-! counting the bits of a long -/
theorem and_byte {b p y q : Nat} (hb : b < 256) (hp : p < 256) : (b + 256 * y) &&& (p + 256 * q) = (b &&& p) + 256 * (y &&& q) := by
  have h1 := Nat.and_lt_two_pow (n := 8) b (show p < 2 ^ 8 by omega)
  have e : ∀ a c : Nat, a < 256 → a + 256 * c = 2 ^ 8 * c + a := fun a c _ => by omega
  rw [e b y hb, e p q hp, e (b &&& p) (y &&& q) (by omega)]
  refine Nat.eq_of_testBit_eq (fun i => ?_)
  rw [Nat.testBit_and, Nat.testBit_two_pow_mul_add _ (by omega), Nat.testBit_two_pow_mul_add _ (by omega), Nat.testBit_two_pow_mul_add _ (by omega)]
  by_cases c : i < 8 <;> simp [c]
def mk (p : Nat) : Nat → Nat
  | 0 => 0
  | n + 1 => p + 256 * mk p n
def pA (n x : Nat) : Nat := x - ((x / 2) &&& mk 85 n)
def pC (n x : Nat) : Nat := (x &&& mk 51 n) + ((x / 4) &&& mk 51 n)
def pD (n x : Nat) : Nat := (x + x / 16) &&& mk 15 n
theorem gA : ∀ b : Fin 256, ∀ r : Fin 2, (b.val / 2 + 128 * r.val) &&& 85 = (b.val / 2) &&& 85 ∧ (b.val / 2) &&& 85 ≤ b.val := by decide +kernel
theorem gC : ∀ a : Fin 256, ∀ r : Fin 4, (a.val / 4 + 64 * r.val) &&& 51 = (a.val / 4) &&& 51 ∧ (a.val &&& 51) + ((a.val / 4) &&& 51) < 256 := by decide +kernel
theorem A_s {b y n : Nat} (hb : b < 256) (hy : (y / 2) &&& mk 85 n ≤ y) : pA (n + 1) (b + 256 * y) = (b - ((b / 2) &&& 85)) + 256 * pA n y ∧ ((b + 256 * y) / 2) &&& mk 85 (n + 1) ≤ b + 256 * y := by
  have g := gA ⟨b, hb⟩ ⟨y % 2, by omega⟩
  simp only at g
  have e : (b + 256 * y) / 2 = (b / 2 + 128 * (y % 2)) + 256 * (y / 2) := by omega
  unfold pA
  rw [mk, e, and_byte (by omega) (by decide), g.1]
  omega
theorem C_s {a y n : Nat} (ha : a < 256) : pC (n + 1) (a + 256 * y) = ((a &&& 51) + ((a / 4) &&& 51)) + 256 * pC n y := by
  have g := gC ⟨a, ha⟩ ⟨y % 4, by omega⟩
  simp only at g
  have e : (a + 256 * y) / 4 = (a / 4 + 64 * (y % 4)) + 256 * (y / 4) := by omega
  unfold pC
  rw [mk, e, and_byte (by omega) (by decide), and_byte (by omega) (by decide), g.1]
  omega
theorem and15 : ∀ c : Fin 69, ∀ r : Fin 5, (c.val + c.val / 16 + 16 * r.val) &&& 15 = (c.val + c.val / 16) % 16 ∧ c.val + c.val / 16 + 16 * r.val < 256 := by decide +kernel
theorem D_s {c y n : Nat} (hc : c < 69) (hy : y % 16 < 5) : pD (n + 1) (c + 256 * y) = (c + c / 16) % 16 + 256 * pD n y := by
  have g := and15 ⟨c, hc⟩ ⟨y % 16, hy⟩
  simp only at g
  have e : c + 256 * y + (c + 256 * y) / 16 = (c + c / 16 + 16 * (y % 16)) + 256 * (y + y / 16) := by omega
  unfold pD
  rw [mk, e, and_byte g.2 (by decide), g.1]
def pT (n x : Nat) : Nat := pD n (pC n (pA n x))
def p8 (b : Nat) : Nat := ((b - ((b / 2) &&& 85)) &&& 51) + (((b - ((b / 2) &&& 85)) / 4) &&& 51)
theorem g8 : ∀ b : Fin 256, p8 b.val < 69 ∧ p8 b.val % 16 < 5 ∧ (p8 b.val + p8 b.val / 16) % 16 = b.val % 2 + b.val / 2 % 2 + b.val / 4 % 2 + b.val / 8 % 2 + b.val / 16 % 2 + b.val / 32 % 2 + b.val / 64 % 2 + b.val / 128 % 2 := by decide +kernel
theorem T_s {n : Nat} : ∀ {x : Nat}, x < 256 ^ n → (x / 2) &&& mk 85 n ≤ x ∧ pC n (pA n x) % 16 < 5 := by
  induction n with
  | zero =>
    intro x hx
    have : x = 0 := by omega
    subst this
    exact ⟨by decide, by decide⟩
  | succ n ih =>
    intro x hx
    obtain ⟨b, y, hb, rfl⟩ : ∃ b y, b < 256 ∧ x = b + 256 * y := ⟨x % 256, x / 256, Nat.mod_lt _ (by decide), (Nat.mod_add_div x 256).symm⟩
    have hy : y < 256 ^ n := by
      rw [Nat.pow_succ] at hx
      generalize 256 ^ n = w at *
      omega
    have h1 := ih hy
    have g := g8 ⟨b, hb⟩
    simp only at g
    have h2 := A_s (n := n) hb h1.1
    refine ⟨h2.2, ?_⟩
    rw [h2.1, C_s (Nat.lt_of_le_of_lt (Nat.sub_le _ _) hb)]
    have e : ((b - (b / 2 &&& 85)) &&& 51) + ((b - (b / 2 &&& 85)) / 4 &&& 51) = p8 b := rfl
    rw [e]
    generalize pC n (pA n y) = u
    generalize p8 b = v at *
    omega
def s8 (b : Nat) : Nat := b % 2 + b / 2 % 2 + b / 4 % 2 + b / 8 % 2 + b / 16 % 2 + b / 32 % 2 + b / 64 % 2 + b / 128 % 2
theorem T_e {n b y : Nat} (hb : b < 256) (hy : y < 256 ^ n) : pT (n + 1) (b + 256 * y) = s8 b + 256 * pT n y := by
  have h1 := T_s hy
  have g := g8 ⟨b, hb⟩
  simp only at g
  unfold pT
  rw [(A_s hb h1.1).1, C_s (Nat.lt_of_le_of_lt (Nat.sub_le _ _) hb)]
  have : ((b - (b / 2 &&& 85)) &&& 51) + ((b - (b / 2 &&& 85)) / 4 &&& 51) = p8 b := rfl
  rw [this, D_s g.1 h1.2, g.2.2]
  rfl
def toN (x : Int64) : Nat := x.toBitVec.toNat
theorem tN_lt (x : Int64) : toN x < 2 ^ 64 := x.toBitVec.isLt
theorem tN_and (x y : Int64) : toN (x &&& y) = toN x &&& toN y := BitVec.toNat_and _ _
theorem tN_shr {x : Int64} {k : Nat} (h : k < 64) : toN (zlushr x (nI k)) = toN x / 2 ^ k := by
  unfold toN
  rw [shr_bv h, BitVec.toNat_ushiftRight, Nat.shiftRight_eq_div_pow]
theorem tN_add {x y : Int64} (h : toN x + toN y < 2 ^ 64) : toN (x + y) = toN x + toN y := by
  show (x.toBitVec + y.toBitVec).toNat = _
  rw [BitVec.toNat_add]
  exact Nat.mod_eq_of_lt h
theorem tN_sub {x y : Int64} (h : toN y ≤ toN x) : toN (x - y) = toN x - toN y := by
  show (x.toBitVec - y.toBitVec).toNat = _
  rw [BitVec.toNat_sub]
  have h1 := x.toBitVec.isLt
  have h2 : y.toBitVec.toNat ≤ x.toBitVec.toNat := h
  unfold toN
  omega
theorem of_tN (x : Int64) : x = Int64.ofNat (toN x) := by
  refine Int64.toBitVec_inj.1 ?_
  show x.toBitVec = BitVec.ofNat 64 x.toBitVec.toNat
  rw [BitVec.ofNat_toNat, BitVec.setWidth_eq]
theorem lo32 (x : Int64) : x.toInt32 = nI (toN x) := by
  conv => lhs; rw [of_tN x]
  exact Int64.toInt32_ofNat' (n := toN x)
def q1 (x : Int64) : Int64 := x - ((zlushr x (1 : Int32)) &&& (6148914691236517205 : Int64))
def q2 (a : Int64) : Int64 := (a &&& (3689348814741910323 : Int64)) + ((zlushr a (2 : Int32)) &&& (3689348814741910323 : Int64))
def q3 (c : Int64) : Int64 := (c + zlushr c (4 : Int32)) &&& (1085102592571150095 : Int64)
def q4 (d : Int64) : Int64 := d + zlushr d (8 : Int32)
def q5 (d : Int64) : Int64 := d + zlushr d (16 : Int32)
def q6 (d : Int64) : Int64 := d + zlushr d (32 : Int32)
theorem s8_le : ∀ b : Nat, s8 b ≤ 8 := fun b => by unfold s8; omega
theorem pow8 : (256 : Nat) ^ 8 = 2 ^ 64 := by decide
theorem T8 {X : Nat} (h : X < 2 ^ 64) : pT 8 X = s8 (X % 256) + 256 * (s8 (X / 256 % 256) + 256 * (s8 (X / 65536 % 256) + 256 * (s8 (X / 16777216 % 256) + 256 * (s8 (X / 4294967296 % 256) + 256 * (s8 (X / 1099511627776 % 256) + 256 * (s8 (X / 281474976710656 % 256) + 256 * s8 (X / 72057594037927936 % 256))))))) := by
  have step : ∀ n Y : Nat, Y < 256 ^ (n + 1) → pT (n + 1) Y = s8 (Y % 256) + 256 * pT n (Y / 256) := fun n Y hY => by
    have hd : Y / 256 < 256 ^ n := by
      rw [Nat.pow_succ] at hY
      generalize 256 ^ n = w at *
      omega
    have := T_e (n := n) (b := Y % 256) (y := Y / 256) (Nat.mod_lt _ (by decide)) hd
    rw [Nat.mod_add_div] at this
    exact this
  have c : ∀ m : Nat, X / m / 256 = X / (m * 256) := fun m => Nat.div_div_eq_div_mul _ _ _
  have lt : ∀ m n : Nat, 0 < m → m * 256 ^ n = 2 ^ 64 → X / m < 256 ^ n := fun m n hm e => Nat.div_lt_of_lt_mul (by rw [e]; exact h)
  have z : pT 0 (X / 18446744073709551616) = 0 := by
    rw [Nat.div_eq_of_lt (by omega)]
    rfl
  rw [step 7 X (by rw [pow8]; exact h), step 6 _ (lt 256 7 (by decide) (by decide)), c 256, step 5 _ (lt 65536 6 (by decide) (by decide)), c 65536, step 4 _ (lt 16777216 5 (by decide) (by decide)), c 16777216, step 3 _ (lt 4294967296 4 (by decide) (by decide)), c 4294967296, step 2 _ (lt 1099511627776 3 (by decide) (by decide)), c 1099511627776, step 1 _ (lt 281474976710656 2 (by decide) (by decide)), c 281474976710656, step 0 _ (lt 72057594037927936 1 (by decide) (by decide)), c 72057594037927936, z, Nat.mul_zero, Nat.add_zero]
theorem dv {a r : Nat} (h : a < 256) : (a + 256 * r) / 256 = r := by omega
theorem md {a r : Nat} (h : a < 128) : (a + 256 * r) % 128 = a := by omega
theorem ad (a r b s : Nat) : (a + 256 * r) + (b + 256 * s) = (a + b) + 256 * (r + s) := by omega
theorem lt8 {a r n : Nat} (ha : a < 256) (hr : r < n) : a + 256 * r < 256 * n := by omega
abbrev v8 (a b c d e f g h : Nat) : Nat := a + 256 * (b + 256 * (c + 256 * (d + 256 * (e + 256 * (f + 256 * (g + 256 * h))))))
theorem v8_add (a b c d e f g h a' b' c' d' e' f' g' h' : Nat) : v8 a b c d e f g h + v8 a' b' c' d' e' f' g' h' = v8 (a + a') (b + b') (c + c') (d + d') (e + e') (f + f') (g + g') (h + h') := by
  unfold v8
  rw [ad, ad, ad, ad, ad, ad, ad]
theorem v8_0 (b c d e f g h : Nat) : b + 256 * (c + 256 * (d + 256 * (e + 256 * (f + 256 * (g + 256 * h))))) = v8 b c d e f g h 0 := rfl
theorem v8_dv {a : Nat} (b c d e f g h : Nat) (ha : a < 256) : v8 a b c d e f g h / 256 = v8 b c d e f g h 0 := dv ha
theorem v8_lt {a b c d e f g h : Nat} (ha : a < 256) (hb : b < 256) (hc : c < 256) (hd : d < 256) (he : e < 256) (hf : f < 256) (hg : g < 256) (hh : h < 256) : v8 a b c d e f g h < 2 ^ 64 := lt8 ha (lt8 hb (lt8 hc (lt8 hd (lt8 he (lt8 hf (lt8 hg hh))))))
theorem sums {d0 d1 d2 d3 d4 d5 d6 d7 : Nat} (h0 : d0 ≤ 8) (h1 : d1 ≤ 8) (h2 : d2 ≤ 8) (h3 : d3 ≤ 8) (h4 : d4 ≤ 8) (h5 : d5 ≤ 8) (h6 : d6 ≤ 8) (h7 : d7 ≤ 8) : ∀ d e g, d = v8 d0 d1 d2 d3 d4 d5 d6 d7 → e = d + d / 2 ^ 8 → g = e + e / 2 ^ 16 → d + d / 2 ^ 8 < 2 ^ 64 ∧ e + e / 2 ^ 16 < 2 ^ 64 ∧ g + g / 2 ^ 32 < 2 ^ 64 ∧ (g + g / 2 ^ 32) % 128 = d0 + d1 + d2 + d3 + d4 + d5 + d6 + d7 := by
  have b8 : ∀ x : Nat, x / 2 ^ 8 = x / 256 := fun _ => rfl
  have b16 : ∀ x : Nat, x / 2 ^ 16 = x / 256 / 256 := fun x => (Nat.div_div_eq_div_mul x 256 256).symm
  have b32 : ∀ x : Nat, x / 2 ^ 32 = x / 256 / 256 / 256 / 256 := fun x => by rw [Nat.div_div_eq_div_mul, Nat.div_div_eq_div_mul, Nat.div_div_eq_div_mul]
  intro d e g hd he hg
  have e1 : d + d / 2 ^ 8 = v8 (d0 + d1) (d1 + d2) (d2 + d3) (d3 + d4) (d4 + d5) (d5 + d6) (d6 + d7) (d7 + 0) := by
    rw [hd, b8, v8_dv _ _ _ _ _ _ _ (by omega), v8_add]
  rw [e1] at he
  have e2 : e + e / 2 ^ 16 = v8 (d0 + d1 + (d2 + d3)) (d1 + d2 + (d3 + d4)) (d2 + d3 + (d4 + d5)) (d3 + d4 + (d5 + d6)) (d4 + d5 + (d6 + d7)) (d5 + d6 + (d7 + 0)) (d6 + d7 + 0) (d7 + 0 + 0) := by
    clear e1 hg hd
    rw [he, b16, v8_dv _ _ _ _ _ _ _ (by clear he; omega), v8_dv _ _ _ _ _ _ _ (by clear he; omega), v8_add]
  rw [e2] at hg
  have e3 : g + g / 2 ^ 32 = v8 (d0 + d1 + (d2 + d3) + (d4 + d5 + (d6 + d7))) (d1 + d2 + (d3 + d4) + (d5 + d6 + (d7 + 0))) (d2 + d3 + (d4 + d5) + (d6 + d7 + 0)) (d3 + d4 + (d5 + d6) + (d7 + 0 + 0)) (d4 + d5 + (d6 + d7) + 0) (d5 + d6 + (d7 + 0) + 0) (d6 + d7 + 0 + 0) (d7 + 0 + 0 + 0) := by
    clear e1 e2 hd he
    rw [hg, b32, v8_dv _ _ _ _ _ _ _ (by clear hg; omega), v8_dv _ _ _ _ _ _ _ (by clear hg; omega), v8_dv _ _ _ _ _ _ _ (by clear hg; omega), v8_dv _ _ _ _ _ _ _ (by clear hg; omega), v8_add]
  rw [e1, e2, e3]
  clear e1 e2 e3 hd he hg b8 b16 b32
  refine ⟨v8_lt (by omega) (by omega) (by omega) (by omega) (by omega) (by omega) (by omega) (by omega), v8_lt (by omega) (by omega) (by omega) (by omega) (by omega) (by omega) (by omega) (by omega), v8_lt (by omega) (by omega) (by omega) (by omega) (by omega) (by omega) (by omega) (by omega), (md (by omega)).trans (by omega)⟩

theorem cN_b (X : Nat) (k : Nat) : cN (fun i => X.testBit i = true) (k + 1) = cN (fun i => X.testBit i = true) k + X / 2 ^ k % 2 := by
  rw [cN]
  congr 1
  have e := Nat.testBit_eq_decide_div_mod_eq (x := X) (i := k)
  by_cases c : X / 2 ^ k % 2 = 1
  · rw [c, if_pos (by rw [e]; exact decide_eq_true c)]
  · rw [if_neg (by rw [e]; exact fun z => c (of_decide_eq_true z))]
    omega
theorem cN_8 (X k : Nat) : cN (fun i => X.testBit i = true) (k + 8) = cN (fun i => X.testBit i = true) k + s8 (X / 2 ^ k % 256) := by
  have p : ∀ j, X / 2 ^ (k + j) = X / 2 ^ k / 2 ^ j := fun j => by rw [Nat.pow_add, Nat.div_div_eq_div_mul]
  rw [cN_b X (k + 7), cN_b X (k + 6), cN_b X (k + 5), cN_b X (k + 4), cN_b X (k + 3), cN_b X (k + 2), cN_b X (k + 1), cN_b X k, p 7, p 6, p 5, p 4, p 3, p 2, p 1]
  generalize X / 2 ^ k = y
  unfold s8
  omega
theorem cN_64 (X : Nat) : cN (fun i => X.testBit i = true) 64 = s8 (X % 256) + s8 (X / 256 % 256) + s8 (X / 65536 % 256) + s8 (X / 16777216 % 256) + s8 (X / 4294967296 % 256) + s8 (X / 1099511627776 % 256) + s8 (X / 281474976710656 % 256) + s8 (X / 72057594037927936 % 256) := by
  rw [cN_8 X 56, cN_8 X 48, cN_8 X 40, cN_8 X 32, cN_8 X 24, cN_8 X 16, cN_8 X 8, cN_8 X 0]
  rw [show X / 2 ^ 0 = X from Nat.div_one X, show cN (fun i => X.testBit i = true) 0 = 0 from rfl, Nat.zero_add]
theorem mk85 : toN (6148914691236517205 : Int64) = mk 85 8 := by decide +kernel
theorem mk51 : toN (3689348814741910323 : Int64) = mk 51 8 := by decide +kernel
theorem mk15 : toN (1085102592571150095 : Int64) = mk 15 8 := by decide +kernel
theorem pC_lt {n x : Nat} (h : mk 51 n + mk 51 n < 256 ^ n) : pC n x < 256 ^ n := by
  unfold pC
  have h1 := Nat.and_le_right (n := x) (m := mk 51 n)
  have h2 := Nat.and_le_right (n := x / 4) (m := mk 51 n)
  omega
theorem pop64 (x : Int64) : (q6 (q5 (q4 (q3 (q2 (q1 x)))))).toInt32 &&& 127 = nI (cN (fun i => btL x i = true) 64) := by
  have hx := tN_lt x
  have hT := T_s (n := 8) (x := toN x) (by rw [pow8]; exact hx)
  have t1 : toN (q1 x) = pA 8 (toN x) := by
    have e : toN (zlushr x (1 : Int32) &&& (6148914691236517205 : Int64)) = (toN x / 2) &&& mk 85 8 := by rw [tN_and, mk85, show toN (zlushr x (1 : Int32)) = toN x / 2 from tN_shr (k := 1) (by decide)]
    unfold q1 pA
    rw [tN_sub (by rw [e]; exact hT.1), e]
  have m51 : mk 51 8 + mk 51 8 < 256 ^ 8 := by decide
  have t2 : toN (q2 (q1 x)) = pC 8 (pA 8 (toN x)) := by
    have e1 : toN (q1 x &&& (3689348814741910323 : Int64)) = pA 8 (toN x) &&& mk 51 8 := by rw [tN_and, mk51, t1]
    have e2 : toN (zlushr (q1 x) (2 : Int32) &&& (3689348814741910323 : Int64)) = (pA 8 (toN x) / 4) &&& mk 51 8 := by rw [tN_and, mk51, show toN (zlushr (q1 x) (2 : Int32)) = toN (q1 x) / 4 from tN_shr (k := 2) (by decide), t1]
    have l := pC_lt (n := 8) (x := pA 8 (toN x)) m51
    unfold pC at l ⊢
    rw [pow8] at l
    unfold q2
    rw [tN_add (by rw [e1, e2]; exact l), e1, e2]
  have c68 : pC 8 (pA 8 (toN x)) + pC 8 (pA 8 (toN x)) / 16 < 2 ^ 64 := by
    have l : pC 8 (pA 8 (toN x)) ≤ mk 51 8 + mk 51 8 := by
      unfold pC
      have h1 := Nat.and_le_right (n := pA 8 (toN x)) (m := mk 51 8)
      have h2 := Nat.and_le_right (n := pA 8 (toN x) / 4) (m := mk 51 8)
      omega
    have m : mk 51 8 + mk 51 8 = 7378697629483820646 := by decide
    rw [m] at l
    generalize pC 8 (pA 8 (toN x)) = u at *
    clear hT t1 t2 m51 m hx
    omega
  have t3 : toN (q3 (q2 (q1 x))) = pT 8 (toN x) := by
    have e1 : toN (zlushr (q2 (q1 x)) (4 : Int32)) = pC 8 (pA 8 (toN x)) / 16 := by rw [show toN (zlushr (q2 (q1 x)) (4 : Int32)) = toN (q2 (q1 x)) / 16 from tN_shr (k := 4) (by decide), t2]
    unfold q3 pT pD
    rw [tN_and, mk15, tN_add (by rw [e1, t2]; exact c68), e1, t2]
  have S := sums (s8_le (toN x % 256)) (s8_le (toN x / 256 % 256)) (s8_le (toN x / 65536 % 256)) (s8_le (toN x / 16777216 % 256)) (s8_le (toN x / 4294967296 % 256)) (s8_le (toN x / 1099511627776 % 256)) (s8_le (toN x / 281474976710656 % 256)) (s8_le (toN x / 72057594037927936 % 256)) (toN (q3 (q2 (q1 x)))) _ _ (t3.trans (T8 hx)) rfl rfl
  have t4 : toN (q4 (q3 (q2 (q1 x)))) = toN (q3 (q2 (q1 x))) + toN (q3 (q2 (q1 x))) / 2 ^ 8 := by
    have e : toN (zlushr (q3 (q2 (q1 x))) (8 : Int32)) = toN (q3 (q2 (q1 x))) / 2 ^ 8 := tN_shr (k := 8) (by decide)
    rw [q4, tN_add (by rw [e]; exact S.1), e]
  rw [← t4] at S
  have t5 : toN (q5 (q4 (q3 (q2 (q1 x))))) = toN (q4 (q3 (q2 (q1 x)))) + toN (q4 (q3 (q2 (q1 x)))) / 2 ^ 16 := by
    have e : toN (zlushr (q4 (q3 (q2 (q1 x)))) (16 : Int32)) = toN (q4 (q3 (q2 (q1 x)))) / 2 ^ 16 := tN_shr (k := 16) (by decide)
    rw [q5, tN_add (by rw [e]; exact S.2.1), e]
  rw [← t5] at S
  have t6 : toN (q6 (q5 (q4 (q3 (q2 (q1 x)))))) = toN (q5 (q4 (q3 (q2 (q1 x))))) + toN (q5 (q4 (q3 (q2 (q1 x))))) / 2 ^ 32 := by
    have e : toN (zlushr (q5 (q4 (q3 (q2 (q1 x))))) (32 : Int32)) = toN (q5 (q4 (q3 (q2 (q1 x))))) / 2 ^ 32 := tN_shr (k := 32) (by decide)
    rw [q6, tN_add (by rw [e]; exact S.2.2.1), e]
  rw [lo32, show (127 : Int32) = nI (2 ^ 7 - 1) from rfl, fa_mask, t6, show (2 : Nat) ^ 7 = 128 from rfl, S.2.2.2, ← cN_64]
  rfl

section LONGS
variable {E : zEv} {D : Nat} {px : String → zM → Prop} {M : zM}
theorem s_bcL {post : Int32 → zM → Prop} {x : Int64} (h : post (cntI (fun i => btL x i = true) 64) M) : zCi E jJ13_bitCount_95d88 D 0 [.long x] M post px := by
  rw [cN_I, ← pop64 x] at h
  exact e_J13_bitCount_95d88 h
end LONGS
