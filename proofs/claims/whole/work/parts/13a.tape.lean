/-! ===== the tape's things: where they begin and end ===== -/
def scG (p : Nat → Bool) : Nat → Nat → Nat
  | 0, i => i
  | k + 1, i => if p i = true then scG p k (i + 1) else i
/-- from i on, as long as p goes on, at most to n -/
def sc (p : Nat → Bool) (n i : Nat) : Nat := scG p (n - i) i
theorem sc_y {p : Nat → Bool} {n i : Nat} (h : i < n) (hp : p i = true) : sc p n i = sc p n (i + 1) := by
  unfold sc
  rw [show n - i = (n - (i + 1)) + 1 by omega]
  exact if_pos hp
theorem sc_n {p : Nat → Bool} {n i : Nat} (h : i < n → p i = false) : sc p n i = i := by
  unfold sc
  by_cases c : i < n
  · rw [show n - i = (n - (i + 1)) + 1 by omega]
    exact if_neg (by rw [h c]; decide)
  · rw [show n - i = 0 by omega]
    rfl
theorem sc_ind {p : Nat → Bool} {n : Nat} (P : Nat → Prop) (step : ∀ i, i < n → p i = true → P (i + 1) → P i) (done : ∀ i, (i < n → p i = false) → P i) : ∀ i, P i := by
  have key : ∀ k i, n ≤ i + k → P i := by
    intro k
    induction k with
    | zero => intro i hi; exact done i (fun z => by omega)
    | succ k ih =>
      intro i hi
      by_cases c : i < n
      · cases hp : p i with
        | true => exact step i c hp (ih (i + 1) (by omega))
        | false => exact done i (fun _ => hp)
      · exact done i (fun z => absurd z c)
  exact fun i => key n i (by omega)
theorem sc_le {p : Nat → Bool} {n : Nat} : ∀ i, i ≤ sc p n i :=
  sc_ind (p := p) (n := n) (fun i => i ≤ sc p n i) (fun i h hp ih => by rw [sc_y h hp]; omega) (fun i h => by rw [sc_n h]; exact Nat.le_refl i)
theorem sc_hi {p : Nat → Bool} {n : Nat} : ∀ i, i ≤ n → sc p n i ≤ n :=
  sc_ind (p := p) (n := n) (fun i => i ≤ n → sc p n i ≤ n) (fun i h hp ih _ => by rw [sc_y h hp]; exact ih h) (fun i h hi => by rw [sc_n h]; exact hi)
theorem sc_out {p : Nat → Bool} {n : Nat} : ∀ i, sc p n i < n → p (sc p n i) = false :=
  sc_ind (p := p) (n := n) (fun i => sc p n i < n → p (sc p n i) = false) (fun i h hp ih => by rw [sc_y h hp]; exact ih) (fun i h hi => by rw [sc_n h] at hi ⊢; exact h hi)
theorem sc_in {p : Nat → Bool} {n : Nat} : ∀ i, ∀ j, i ≤ j → j < sc p n i → p j = true :=
  sc_ind (p := p) (n := n) (fun i => ∀ j, i ≤ j → j < sc p n i → p j = true) (fun i h hp ih j h1 h2 => by
    by_cases c : j = i
    · rw [c]; exact hp
    · rw [sc_y h hp] at h2
      exact ih j (by omega) h2) (fun i h j h1 h2 => by rw [sc_n h] at h2; omega)
theorem sc_id {p : Nat → Bool} {n : Nat} (i : Nat) : sc p n (sc p n i) = sc p n i := sc_n (fun h => sc_out i h)
def isB (b : Nat → Nat) (j : Nat) : Bool := decide (b j = 32)
def isL (b : Nat → Nat) (j : Nat) : Bool := decide (97 ≤ b j ∧ b j ≤ 122)
def isD (b : Nat → Nat) (j : Nat) : Bool := decide (48 ≤ b j ∧ b j ≤ 57)
theorem isB_t {b : Nat → Nat} {j : Nat} : isB b j = true ↔ b j = 32 := decide_eq_true_iff
theorem isL_t {b : Nat → Nat} {j : Nat} : isL b j = true ↔ 97 ≤ b j ∧ b j ≤ 122 := decide_eq_true_iff
theorem isD_t {b : Nat → Nat} {j : Nat} : isD b j = true ↔ 48 ≤ b j ∧ b j ≤ 57 := decide_eq_true_iff
theorem isB_f {b : Nat → Nat} {j : Nat} : isB b j = false ↔ ¬ b j = 32 := decide_eq_false_iff_not
theorem isL_f {b : Nat → Nat} {j : Nat} : isL b j = false ↔ ¬ (97 ≤ b j ∧ b j ≤ 122) := decide_eq_false_iff_not
theorem isD_f {b : Nat → Nat} {j : Nat} : isD b j = false ↔ ¬ (48 ≤ b j ∧ b j ≤ 57) := decide_eq_false_iff_not
/-- behind blanks; a word's end; a number's end -/
def tb (b : Nat → Nat) (n p : Nat) : Nat := sc (isB b) n p
def wE (b : Nat → Nat) (n q : Nat) : Nat := sc (isL b) n q
def dE (b : Nat → Nat) (n q : Nat) : Nat := sc (isD b) n q
def kdT (b : Nat → Nat) (n q : Nat) : Nat := if q < wE b n q then 1 else if q < dE b n q then 2 else if q < n then 3 else 0
def beT (b : Nat → Nat) (n q : Nat) : Nat := if q < wE b n q then wE b n q else if q < dE b n q then dE b n q else if q < n then q + 1 else q
/-- no blank stands at q -/
def nbl (b : Nat → Nat) (n q : Nat) : Prop := q ≤ n ∧ (q < n → isB b q = false)
theorem nbl_tb {b : Nat → Nat} {n p : Nat} (h : p ≤ n) : nbl b n (tb b n p) := ⟨sc_hi p h, fun z => sc_out p z⟩
theorem tb_id {b : Nat → Nat} {n q : Nat} (h : nbl b n q) : tb b n q = q := sc_n h.2
theorem tb_le {b : Nat → Nat} {n p : Nat} : p ≤ tb b n p := sc_le p
theorem tb_hi {b : Nat → Nat} {n p : Nat} (h : p ≤ n) : tb b n p ≤ n := sc_hi p h
theorem tb_tb {b : Nat → Nat} {n p : Nat} : tb b n (tb b n p) = tb b n p := sc_id p
theorem wE_le {b : Nat → Nat} {n p : Nat} : p ≤ wE b n p := sc_le p
theorem wE_hi {b : Nat → Nat} {n p : Nat} (h : p ≤ n) : wE b n p ≤ n := sc_hi p h
theorem dE_le {b : Nat → Nat} {n p : Nat} : p ≤ dE b n p := sc_le p
theorem dE_hi {b : Nat → Nat} {n p : Nat} (h : p ≤ n) : dE b n p ≤ n := sc_hi p h
theorem wE_c {b : Nat → Nat} {n q : Nat} (h : q < wE b n q) (hq : q ≤ n) : q < n ∧ 97 ≤ b q ∧ b q ≤ 122 := ⟨Nat.lt_of_lt_of_le h (wE_hi hq), isL_t.mp (sc_in q q (Nat.le_refl q) h)⟩
theorem dE_c {b : Nat → Nat} {n q : Nat} (h : q < dE b n q) (hq : q ≤ n) : q < n ∧ 48 ≤ b q ∧ b q ≤ 57 := ⟨Nat.lt_of_lt_of_le h (dE_hi hq), isD_t.mp (sc_in q q (Nat.le_refl q) h)⟩
theorem wE_n {b : Nat → Nat} {n q : Nat} (h : ¬ (q < n ∧ 97 ≤ b q ∧ b q ≤ 122)) : wE b n q = q := sc_n (fun z => isL_f.mpr (fun c => h ⟨z, c⟩))
theorem dE_n {b : Nat → Nat} {n q : Nat} (h : ¬ (q < n ∧ 48 ≤ b q ∧ b q ≤ 57)) : dE b n q = q := sc_n (fun z => isD_f.mpr (fun c => h ⟨z, c⟩))
/-- the class's tape -/
def tcC (M : zM) (b : Nat → Nat) (n : Nat) : Prop := n ≤ 400 ∧ M.1 20 1 = nI n ∧ ∀ j, j < 400 → M.1 21 j = nI (b j) ∧ b j < 256
/-- what stands there begins at q -/
def tkC (M : zM) (b : Nat → Nat) (n q : Nat) : Prop := M.1 20 3 = nI q ∧ M.1 20 2 = nI (kdT b n q) ∧ M.1 20 4 = nI (beT b n q) ∧ nbl b n q
def off20 (M' M : zM) : Prop := (∀ o j, ¬ (o = 20 ∧ 2 ≤ j) → M'.1 o j = M.1 o j) ∧ M'.2 = M.2
theorem off20.refl {M : zM} : off20 M M := ⟨fun _ _ _ => rfl, rfl⟩
theorem off20.trans {A B C : zM} (h : off20 A B) (h2 : off20 B C) : off20 A C := ⟨fun o j z => (h.1 o j z).trans (h2.1 o j z), h.2.trans h2.2⟩
theorem off20.up {M' M : zM} {j : Nat} {v : Int32} (hj : 2 ≤ j) (h : off20 M' M) : off20 (zup M' 20 j v) M := ⟨fun o i z => by rw [zup_n (by omega)]; exact h.1 o i z, h.2⟩
theorem off20.pi {M' M : zM} (h : off20 M' M) : zpi M' = zpi M := zpi_of (fun o j hi => ⟨h.1 o j (fun z => by
  obtain ⟨rfl, hj⟩ := z
  have : irr 20 j = true := by
    show Nat.ble 2 j = true
    exact Nat.ble_eq_true_of_le hj
  rw [this] at hi
  cases hi), by rw [h.2]⟩)
theorem tcC.off {M' M : zM} {b : Nat → Nat} {n : Nat} (h : tcC M b n) (e : off20 M' M) : tcC M' b n := ⟨h.1, by rw [e.1 20 1 (by omega)]; exact h.2.1, fun j hj => by rw [e.1 21 j (by omega)]; exact h.2.2 j hj⟩
theorem tcC.pi {M' M : zM} {b : Nat → Nat} {n : Nat} (h : tcC M b n) (e : zpi M' = zpi M) : tcC M' b n := ⟨h.1, by rw [zpi_at e rfl]; exact h.2.1, fun j hj => by rw [zpi_at e rfl]; exact h.2.2 j hj⟩
theorem kd_0 {b : Nat → Nat} {n q : Nat} (h : nbl b n q) : kdT b n q = 0 ↔ q = n := by
  have h1 := h.1
  unfold kdT
  by_cases c : q < wE b n q
  · have := wE_c c h1
    rw [if_pos c]; omega
  · rw [if_neg c]
    by_cases d : q < dE b n q
    · have := dE_c d h1
      rw [if_pos d]; omega
    · rw [if_neg d]
      by_cases e : q < n
      · rw [if_pos e]; omega
      · rw [if_neg e]; omega
theorem kd_le {b : Nat → Nat} {n q : Nat} : kdT b n q ≤ 3 := by
  unfold kdT
  split
  · decide
  · split
    · decide
    · split <;> decide
theorem kd_1 {b : Nat → Nat} {n q : Nat} : kdT b n q = 1 ↔ q < wE b n q := by
  unfold kdT
  by_cases c : q < wE b n q
  · rw [if_pos c]; exact ⟨fun _ => c, fun _ => rfl⟩
  · rw [if_neg c]
    refine ⟨fun z => ?_, fun z => absurd z c⟩
    split at z
    · cases z
    · split at z <;> cases z
theorem kd_2 {b : Nat → Nat} {n q : Nat} (h : nbl b n q) : kdT b n q = 2 ↔ q < dE b n q := by
  have h1 := h.1
  unfold kdT
  by_cases c : q < wE b n q
  · have c1 := wE_c c h1
    rw [if_pos c]
    refine ⟨fun z => (by cases z), fun z => ?_⟩
    have := dE_c z h1
    omega
  · rw [if_neg c]
    by_cases d : q < dE b n q
    · rw [if_pos d]; exact ⟨fun _ => d, fun _ => rfl⟩
    · rw [if_neg d]
      refine ⟨fun z => ?_, fun z => absurd z d⟩
      split at z <;> cases z
theorem be_w {b : Nat → Nat} {n q : Nat} (h : q < wE b n q) : beT b n q = wE b n q := if_pos h
theorem be_d {b : Nat → Nat} {n q : Nat} (hn : nbl b n q) (h : q < dE b n q) : beT b n q = dE b n q := by
  have := dE_c h hn.1
  unfold beT
  rw [if_neg, if_pos h]
  intro z
  have := wE_c z hn.1
  omega
theorem be_le {b : Nat → Nat} {n q : Nat} (h : q ≤ n) : beT b n q ≤ n := by
  unfold beT
  split
  · exact wE_hi h
  · split
    · exact dE_hi h
    · split
      · omega
      · exact h
/-- a sign: no letter, no digit -/
abbrev sgc (c : Nat) : Prop := ¬ (97 ≤ c ∧ c ≤ 122) ∧ ¬ (48 ≤ c ∧ c ≤ 57) ∧ c < 256
abbrev sgP (b : Nat → Nat) (n q c : Nat) : Prop := q < n ∧ b q = c
theorem sg_kd {b : Nat → Nat} {n q c : Nat} (hc : sgc c) (h : sgP b n q c) : kdT b n q = 3 ∧ beT b n q = q + 1 := by
  have w : wE b n q = q := wE_n (fun z => hc.1 (by rw [← h.2]; exact z.2))
  have d : dE b n q = q := dE_n (fun z => hc.2.1 (by rw [← h.2]; exact z.2))
  unfold kdT beT
  rw [w, d, if_neg (Nat.lt_irrefl q), if_neg (Nat.lt_irrefl q), if_pos h.1, if_neg (Nat.lt_irrefl q), if_neg (Nat.lt_irrefl q), if_pos h.1]
  exact ⟨rfl, rfl⟩
/-- a word: the literal w -/
abbrev wdP (b : Nat → Nat) (n q w : Nat) : Prop := wE b n q = q + zLitL.getD w 0 ∧ ∀ i, i < zLitL.getD w 0 → nI (b (q + i)) = zCh w i
/-- a number's digits -/
def nuV (b : Nat → Nat) (q : Nat) : Nat → Nat
  | 0 => 0
  | k + 1 => 10 * nuV b q k + b (q + k) - 48
def nuF (b : Nat → Nat) (n q lo hi : Nat) : Option Nat := if q < dE b n q ∧ dE b n q ≤ q + 3 ∧ lo ≤ nuV b q (dE b n q - q) ∧ nuV b q (dE b n q - q) ≤ hi then some (nuV b q (dE b n q - q)) else none
theorem nuF_some {b : Nat → Nat} {n q lo hi v : Nat} (h : nuF b n q lo hi = some v) : q < dE b n q ∧ lo ≤ v ∧ v ≤ hi := by
  unfold nuF at h
  split at h
  · rename_i c
    have e : nuV b q (dE b n q - q) = v := Option.some.inj h
    rw [e] at c
    exact ⟨c.1, c.2.2⟩
  · cases h
theorem nuV_lt {b : Nat → Nat} {q : Nat} : ∀ k, (∀ i, i < k → 48 ≤ b (q + i) ∧ b (q + i) ≤ 57) → nuV b q k < 10 ^ k
  | 0, _ => Nat.lt_succ_self 0
  | k + 1, h => by
    have ih := nuV_lt k (fun i hi => h i (by omega))
    have := h k (by omega)
    unfold nuV
    rw [Nat.pow_succ]
    omega
theorem dE_dig {b : Nat → Nat} {n q i : Nat} (h : q + i < dE b n q) : 48 ≤ b (q + i) ∧ b (q + i) ≤ 57 := isD_t.mp (sc_in q (q + i) (by omega) h)
theorem wE_let {b : Nat → Nat} {n q i : Nat} (h : q + i < wE b n q) : 97 ≤ b (q + i) ∧ b (q + i) ≤ 122 := isL_t.mp (sc_in q (q + i) (by omega) h)
theorem nuV_999 {b : Nat → Nat} {n q k : Nat} (hk : k ≤ 3) (h : q + k ≤ dE b n q) : nuV b q k ≤ 999 := by
  have := nuV_lt (b := b) (q := q) k (fun i hi => dE_dig (n := n) (by omega))
  have h3 : (10 : Nat) ^ k ≤ 10 ^ 3 := Nat.pow_le_pow_right (by decide) hk
  omega
/-- letters, none twice, of m -/
def leF (b : Nat → Nat) (q m : Nat) : Nat → Option Nat
  | 0 => some 0
  | k + 1 => match leF b q m k with
    | none => none
    | some s => if b (q + k) - 97 < m ∧ s.testBit (b (q + k) - 97) = false then some (s ||| 2 ^ (b (q + k) - 97)) else none
def letF (b : Nat → Nat) (n q m : Nat) : Option Nat := if q < wE b n q then leF b q m (wE b n q - q) else none
theorem leF_none {b : Nat → Nat} {q m k : Nat} (h : leF b q m k = none) : ∀ j, leF b q m (k + j) = none
  | 0 => h
  | j + 1 => by
    show (match leF b q m (k + j) with | none => none | some s => if b (q + (k + j)) - 97 < m ∧ s.testBit (b (q + (k + j)) - 97) = false then some (s ||| 2 ^ (b (q + (k + j)) - 97)) else none) = none
    rw [leF_none h j]
theorem leF_lt {b : Nat → Nat} {q m : Nat} : ∀ {k s : Nat}, leF b q m k = some s → s < 2 ^ m ∧ (0 < k → 0 < s)
  | 0, s, h => by
    have e : 0 = s := Option.some.inj h
    subst e
    exact ⟨Nat.two_pow_pos m, fun z => absurd z (by decide)⟩
  | k + 1, s, h => by
    unfold leF at h
    cases hk : leF b q m k with
    | none => rw [hk] at h; cases h
    | some t =>
      rw [hk] at h
      have h2 : (if b (q + k) - 97 < m ∧ t.testBit (b (q + k) - 97) = false then some (t ||| 2 ^ (b (q + k) - 97)) else none) = some s := h
      split at h2
      · rename_i c
        have e : t ||| 2 ^ (b (q + k) - 97) = s := Option.some.inj h2
        subst e
        have p1 : 2 ^ (b (q + k) - 97) < 2 ^ m := Nat.pow_lt_pow_right (by decide) c.1
        refine ⟨Nat.or_lt_two_pow (leF_lt hk).1 p1, fun _ => ?_⟩
        have := Nat.right_le_or (n := t) (m := 2 ^ (b (q + k) - 97))
        have := Nat.two_pow_pos (b (q + k) - 97)
        omega
      · cases h2
theorem letF_some {b : Nat → Nat} {n q m s : Nat} (h : letF b n q m = some s) : q < wE b n q ∧ 0 < s ∧ s < 2 ^ m := by
  unfold letF at h
  split at h
  · rename_i c
    have := leF_lt h
    exact ⟨c, this.2 (by omega), this.1⟩
  · cases h
theorem or_N {s t : Nat} (h : t < 32) : nI s ||| (1 <<< (nI t &&& 31)) = nI (s ||| 2 ^ t) := by
  apply bt_ext
  intro i hi
  rw [bt_or, bt_nI hi, bt_nI hi, bt_bit h, Nat.testBit_or, Nat.testBit_two_pow]
  congr 1
  exact decide_eq_decide.mpr ⟨Eq.symm, Eq.symm⟩
section TAPEC
variable {E : zEv} {D : Nat} {px : String → zM → Prop} {M : zM} {b : Nat → Nat} {n q : Nat}
theorem tcC.at {M' : zM} {x : Int32} {i : Nat} (h : tcC M b n) (ho : off20 M' M) (hx : x = nI i) (hi : i < n) : M'.1 21 x.toNatClampNeg = nI (b i) ∧ vp_in x 400 ∧ b i < 256 := by
  have h4 := h.1
  subst hx
  rw [nI_clamp (by omega), ho.1 21 i (by omega)]
  exact ⟨(h.2.2 i (by omega)).1, pk_in i _ (by omega), (h.2.2 i (by omega)).2⟩
theorem s_X9_advance {post : zM → Prop} {p : Nat} (ht : tcC M b n) (h4 : M.1 20 4 = nI p) (hp : p ≤ n) (hq : ∀ M', tkC M' b n (tb b n p) → off20 M' M → post M') : zCv E jX9_advance D 0 [.ref 20] M post px := by
  have n4 := ht.1
  have nb := nbl_tb (b := b) hp
  generalize hQ : tb b n p = q at *
  have q4 := nb.1
  have hn : ∀ {M'}, off20 M' M → M'.1 20 1 = nI n := fun o => by rw [o.1 20 1 (by omega)]; exact ht.2.1
  -- a number, a sign, the end
  have fin : ∀ M' s, M'.1 20 3 = nI q → off20 M' M → ¬ q < wE b n q → ¬ q < dE b n q → s = nI (if q < n then 3 else 0) → w_X9_advance_209 E D post px s M' := by
    intro M' s h3 ho c1 c2 hs
    refine t_X9_advance_209 (fun M1 e1 => ?_)
    have o1 : off20 M1 M := by rw [e1]; exact ho.up (by decide)
    have x3 : M1.1 20 3 = nI q := by rw [e1, zup_n (Or.inr (by decide))]; exact h3
    have x2 : M1.1 20 2 = nI (kdT b n q) := by
      rw [e1, zup_s, hs]
      unfold kdT
      rw [if_neg c1, if_neg c2]
    have last : ∀ v, v = nI (beT b n q) → w_X9_advance_237 E D post px v M1 := fun v hv => t_X9_advance_237 (fun M2 e2 => hq M2 ⟨by rw [e2, zup_n (Or.inr (by decide))]; exact x3, by rw [e2, zup_n (Or.inr (by decide))]; exact x2, by rw [e2, zup_s]; exact hv, nb⟩ (by rw [e2]; exact o1.up (by decide)))
    refine pk_le n q (fun z => last _ ?_) (fun z => last _ ?_) (hn o1) x3
    · rw [x3]; unfold beT; rw [if_neg c1, if_neg c2, if_neg (by omega)]
    · rw [x3, nI_1]; unfold beT; rw [if_neg c1, if_neg c2, if_pos z]
  have dig : ∀ M', M'.1 20 3 = nI q → M'.1 20 4 = nI q → off20 M' M → ¬ q < wE b n q → w_X9_advance_123 E D post px M' := by
    have key := sc_ind (p := isD b) (n := n) (fun i => q ≤ i → i ≤ n → dE b n i = dE b n q → ∀ M', M'.1 20 3 = nI q → M'.1 20 4 = nI i → off20 M' M → ¬ q < wE b n q → w_X9_advance_123 E D post px M') (fun i hi hpi ih h0 h1 h2 M' h3 h4' ho c1 => ?_) (fun i hd h0 h1 h2 M' h3 h4' ho c1 => ?_)
    · exact fun M' h3 h4' ho c1 => key q (Nat.le_refl q) q4 rfl M' h3 h4' ho c1
    · obtain ⟨e21, iv, -⟩ := ht.at ho h4' hi
      have c := isD_t.mp hpi
      refine t_X9_advance_123 (pk_le n i (fun z => absurd z (by omega)) (fun _ => ⟨iv, pk_lt (b i) 48 (fun z => absurd z (by omega)) (fun _ => ⟨iv, pk_lt 57 (b i) (fun z => absurd z (by omega)) (fun _ M14 e14 => ?_) rfl e21⟩) e21⟩) (hn ho) h4')
      rw [h4', nI_1] at e14
      refine ih (by omega) (by omega) (by rw [← h2]; exact (sc_y hi hpi).symm) M14 (by rw [e14, zup_n (Or.inr (by decide))]; exact h3) (by rw [e14, zup_s]) (by rw [e14]; exact ho.up (by decide)) c1
    · have ei : dE b n i = i := sc_n hd
      have last : w_X9_advance_175 E D post px M' := by
        refine t_X9_advance_175 (fun M1 e1 => ?_)
        have o1 : off20 M1 M := by rw [e1]; exact ho.up (by decide)
        have x3 : M1.1 20 3 = nI q := by rw [e1, zup_n (Or.inr (by decide))]; exact h3
        have x4 : M1.1 20 4 = nI i := by rw [e1, zup_n (Or.inr (by decide))]; exact h4'
        refine pk_le i q (fun z => ?_) (fun z => ?_) x4 x3
        · have c2 : ¬ q < dE b n q := by omega
          exact pk_le n q (fun y => fin M1 _ x3 o1 c1 c2 (by rw [if_neg (by omega)]; rfl)) (fun y => fin M1 _ x3 o1 c1 c2 (by rw [if_pos y]; rfl)) (hn o1) x3
        · have c2 : q < dE b n q := by omega
          refine hq M1 ⟨x3, ?_, ?_, nb⟩ o1
          · rw [(kd_2 nb).mpr c2, e1, zup_s]; rfl
          · rw [be_d nb c2, x4, ← h2, ei]
      by_cases c : i < n
      · obtain ⟨e21, iv, bb⟩ := ht.at ho h4' c
        have cd := isD_f.mp (hd c)
        exact t_X9_advance_123 (pk_le n i (fun z => absurd z (by omega)) (fun _ => ⟨iv, pk_lt (b i) 48 (fun z => last) (fun _ => ⟨iv, pk_lt 57 (b i) (fun z => last) (fun _ => absurd ⟨by omega, by omega⟩ cd) rfl e21⟩) e21⟩) (hn ho) h4')
      · exact t_X9_advance_123 (pk_le n i (fun z => last) (fun z => absurd z (by omega)) (hn ho) h4')
  have wrd : ∀ M', M'.1 20 3 = nI q → M'.1 20 4 = nI q → off20 M' M → w_X9_advance_54 E D post px M' := by
    have key := sc_ind (p := isL b) (n := n) (fun i => q ≤ i → i ≤ n → wE b n i = wE b n q → ∀ M', M'.1 20 3 = nI q → M'.1 20 4 = nI i → off20 M' M → w_X9_advance_54 E D post px M') (fun i hi hpi ih h0 h1 h2 M' h3 h4' ho => ?_) (fun i hd h0 h1 h2 M' h3 h4' ho => ?_)
    · exact fun M' h3 h4' ho => key q (Nat.le_refl q) q4 rfl M' h3 h4' ho
    · obtain ⟨e21, iv, -⟩ := ht.at ho h4' hi
      have c := isL_t.mp hpi
      refine t_X9_advance_54 (pk_le n i (fun z => absurd z (by omega)) (fun _ => ⟨iv, pk_lt (b i) 97 (fun z => absurd z (by omega)) (fun _ => ⟨iv, pk_lt 122 (b i) (fun z => absurd z (by omega)) (fun _ M14 e14 => ?_) rfl e21⟩) e21⟩) (hn ho) h4')
      rw [h4', nI_1] at e14
      refine ih (by omega) (by omega) (by rw [← h2]; exact (sc_y hi hpi).symm) M14 (by rw [e14, zup_n (Or.inr (by decide))]; exact h3) (by rw [e14, zup_s]) (by rw [e14]; exact ho.up (by decide))
    · have ei : wE b n i = i := sc_n hd
      have last : w_X9_advance_106 E D post px M' := by
        refine t_X9_advance_106 (fun M1 e1 => ?_)
        have o1 : off20 M1 M := by rw [e1]; exact ho.up (by decide)
        have x3 : M1.1 20 3 = nI q := by rw [e1, zup_n (Or.inr (by decide))]; exact h3
        have x4 : M1.1 20 4 = nI i := by rw [e1, zup_n (Or.inr (by decide))]; exact h4'
        refine pk_le i q (fun z => dig M1 x3 (by rw [x4, show i = q by omega]) o1 (by omega)) (fun z => ?_) x4 x3
        have c2 : q < wE b n q := by omega
        refine hq M1 ⟨x3, ?_, ?_, nb⟩ o1
        · rw [kd_1.mpr c2, e1, zup_s]; rfl
        · rw [be_w c2, x4, ← h2, ei]
      by_cases c : i < n
      · obtain ⟨e21, iv, bb⟩ := ht.at ho h4' c
        have cd := isL_f.mp (hd c)
        exact t_X9_advance_54 (pk_le n i (fun z => absurd z (by omega)) (fun _ => ⟨iv, pk_lt (b i) 97 (fun z => last) (fun _ => ⟨iv, pk_lt 122 (b i) (fun z => last) (fun _ => absurd ⟨by omega, by omega⟩ cd) rfl e21⟩) e21⟩) (hn ho) h4')
      · exact t_X9_advance_54 (pk_le n i (fun z => last) (fun z => absurd z (by omega)) (hn ho) h4')
  have bln := sc_ind (p := isB b) (n := n) (fun i => i ≤ n → tb b n i = q → ∀ M', M'.1 20 3 = nI i → off20 M' M → w_X9_advance_8 E D post px M') (fun i hi hpi ih h1 h2 M' h3 ho => ?_) (fun i hd h1 h2 M' h3 ho => ?_)
  · refine e_X9_advance (fun M1 e1 => bln p hp hQ M1 (by rw [e1, zup_s]; exact h4) (by rw [e1]; exact off20.refl.up (by decide)))
  · obtain ⟨e21, iv, -⟩ := ht.at ho h3 hi
    have c := isB_t.mp hpi
    refine t_X9_advance_8 (pk_le n i (fun z => absurd z (by omega)) (fun _ => ⟨iv, fun z => absurd (by rw [e21, c]; rfl) z, fun _ M9 e9 => ?_⟩) (hn ho) h3)
    rw [h3, nI_1] at e9
    exact ih (by omega) (by rw [← h2]; exact (sc_y hi hpi).symm) M9 (by rw [e9, zup_s]) (by rw [e9]; exact ho.up (by decide))
  · have ei : i = q := by rw [← h2]; exact (sc_n hd).symm
    have last : w_X9_advance_46 E D post px M' := t_X9_advance_46 (fun M1 e1 => wrd M1 (by rw [e1, zup_n (Or.inr (by decide)), h3, ei]) (by rw [e1, zup_s, h3, ei]) (by rw [e1]; exact ho.up (by decide)))
    by_cases c : i < n
    · obtain ⟨e21, iv, bb⟩ := ht.at ho h3 c
      have cd := isB_f.mp (hd c)
      exact t_X9_advance_8 (pk_le n i (fun z => absurd z (by omega)) (fun _ => ⟨iv, fun z => last, fun z => absurd ((nI_eq (by omega) (by decide)).mp (e21.symm.trans z)) cd⟩) (hn ho) h3)
    · exact t_X9_advance_8 (pk_le n i (fun z => last) (fun z => absurd z (by omega)) (hn ho) h3)
theorem s_X9_open {post : zM → Prop} (ht : tcC M b n) (hq : ∀ M', tkC M' b n (tb b n 0) → off20 M' M → post M') : zCv E jX9_open (D + 1) 0 [.ref 20] M post px := by
  refine e_X9_open (fun M1 e1 => ?_)
  have o1 : off20 M1 M := by rw [e1]; exact off20.refl.up (by decide)
  exact s_X9_advance (p := 0) (ht.off o1) (by rw [e1, zup_s]; rfl) (by omega) (fun M' h1 h2 => hq M' h1 (h2.trans o1))
theorem s_X9_isEnd {post : Int32 → zM → Prop} (hk : tkC M b n q) (h1 : q = n → post 1 M) (h0 : q < n → post 0 M) : zCi E jX9_isEnd D 0 [.ref 20] M post px := by
  have k0 := kd_0 hk.2.2.2
  have k3 := kd_le (b := b) (n := n) (q := q)
  have qn := hk.2.2.2.1
  have e : M.1 20 2 = 0 ↔ kdT b n q = 0 := by rw [hk.2.1]; exact nI_eq (b := 0) (by omega) (by decide)
  exact e_X9_isEnd ⟨fun z => t_X9_isEnd_12 ⟨Or.inl rfl, h0 (Nat.lt_of_le_of_ne qn (fun y => z (e.mpr (k0.mpr y))))⟩, fun z => t_X9_isEnd_12 ⟨Or.inr rfl, h1 (k0.mp (e.mp z))⟩⟩
theorem s_X9_isSign {post : Int32 → zM → Prop} {c : Nat} {x : Int32} (hx : x = nI c) (hc : sgc c) (ht : tcC M b n) (hk : tkC M b n q) (h1 : sgP b n q c → post 1 M) (h0 : ¬ sgP b n q c → post 0 M) : zCi E jX9_isSign D 0 [.ref 20, .int x] M post px := by
  have k3 := kd_le (b := b) (n := n) (q := q)
  have n4 := ht.1
  have e : M.1 20 2 = 3 ↔ kdT b n q = 3 := by rw [hk.2.1]; exact nI_eq (b := 3) (by omega) (by decide)
  refine e_X9_isSign ⟨fun z => t_X9_isSign_25 (t_X9_isSign_26 ⟨Or.inl rfl, h0 (fun y => z (e.mpr (sg_kd hc y).1))⟩), fun z => ?_⟩
  have ql : q < n := by
    refine Nat.lt_of_le_of_ne hk.2.2.2.1 (fun y => ?_)
    have := (kd_0 hk.2.2.2).mpr y
    rw [e.mp z] at this
    cases this
  obtain ⟨e21, iv, bb⟩ := ht.at off20.refl hk.1 ql
  have ec : M.1 21 (M.1 20 3).toNatClampNeg = x ↔ b q = c := by rw [e21, hx]; exact nI_eq (by omega) (by have := hc.2.2; omega)
  exact ⟨iv, fun y => t_X9_isSign_25 (t_X9_isSign_26 ⟨Or.inl rfl, h0 (fun a => y (ec.mpr a.2))⟩), fun y => t_X9_isSign_26 ⟨Or.inr rfl, h1 ⟨ql, ec.mp y⟩⟩⟩
theorem s_X9_takeSign {post : Int32 → zM → Prop} {c : Nat} {x : Int32} (hx : x = nI c) (hc : sgc c) (ht : tcC M b n) (hk : tkC M b n q) (h1 : sgP b n q c → ∀ M', tkC M' b n (tb b n (q + 1)) → off20 M' M → post 1 M') (h0 : ¬ sgP b n q c → post 0 M) : zCi E jX9_takeSign (D + 1) 0 [.ref 20, .int x] M post px := by
  refine e_X9_takeSign (s_X9_isSign hx hc ht hk (fun z => z1A (s_X9_advance ht (p := q + 1) ?_ z.1 (fun M' a1 a2 => h1 z M' a1 a2))) (fun z => z0B (h0 z)))
  rw [hk.2.2.1, (sg_kd hc z).2]
theorem s_X9_isWord {post : Int32 → zM → Prop} {w : Nat} (hw : w < zLitN) (hl : 0 < zLitL.getD w 0) (ht : tcC M b n) (hk : tkC M b n q) (h1 : wdP b n q w → post 1 M) (h0 : ¬ wdP b n q w → post 0 M) : zCi E jX9_isWord (D + 4) 0 [.ref 20, .ref (271 + w)] M post px := by
  have k3 := kd_le (b := b) (n := n) (q := q)
  have n4 := ht.1
  have l60 := (zLit_ok w hw).2.1
  have qn := hk.2.2.2.1
  have wh := wE_hi (b := b) qn
  have e : M.1 20 2 = 1 ↔ q < wE b n q := by rw [hk.2.1, ← kd_1]; exact nI_eq (b := 1) (by omega) (by decide)
  refine e_X9_isWord ⟨fun z => t_X9_isWord_24 (h0 (fun y => z (e.mpr (by omega)))), fun z => ⟨hw, s_length hw ?_⟩⟩
  have c := e.mp z
  rw [hk.2.2.1, hk.1, be_w c, pk_sub (by omega)]
  refine pk_eq (wE b n q - q) (zLitL.getD w 0) (fun y => ?_) (fun y => t_X9_isWord_24 (h0 (fun a => y (by omega))))
  have key := zup_loop (fun i => (∀ j, j < i → nI (b (q + j)) = zCh w j) → w_X9_isWord_28 E (D + 3) post px w (nI i) M) (zLitL.getD w 0) (fun i hi ih ha => ?_) (fun ha => ?_) 0 (by omega)
  · exact key (fun j hj => absurd hj (by omega))
  · refine t_X9_isWord_28 ⟨hw, s_length hw (pk_le (zLitL.getD w 0) i (fun z => absurd z (by omega)) (fun _ => ?_))⟩
    have e3 : M.1 20 3 + nI i = nI (q + i) := by rw [hk.1, nI_add]
    rw [e3]
    refine ⟨pk_in (q + i) _ (by omega), hw, s_charAt hw (pk_in i _ hi) (nI_lt hi (by omega)) ?_⟩
    rw [nI_clamp (n := q + i) (by omega), nI_clamp (n := i) (by omega), (ht.2.2 (q + i) (by omega)).1, nI_1]
    refine ⟨fun a => ih (fun j hj => ?_), fun a => h0 (fun z => a (z.2 i hi))⟩
    by_cases c3 : j = i
    · rw [c3]; exact a
    · exact ha j (by omega)
  · exact t_X9_isWord_28 ⟨hw, s_length hw (pk_le (zLitL.getD w 0) (zLitL.getD w 0) (fun _ => h1 ⟨by omega, ha⟩) (fun z => absurd z (by omega)))⟩
theorem wd_w {w : Nat} (hl : 0 < zLitL.getD w 0) (h : wdP b n q w) : q < wE b n q := by have := h.1; omega
theorem s_X9_takeWord {post : Int32 → zM → Prop} {w : Nat} (hw : w < zLitN) (hl : 0 < zLitL.getD w 0) (ht : tcC M b n) (hk : tkC M b n q) (h1 : wdP b n q w → ∀ M', tkC M' b n (tb b n (wE b n q)) → off20 M' M → post 1 M') (h0 : ¬ wdP b n q w → post 0 M) : zCi E jX9_takeWord (D + 5) 0 [.ref 20, .ref (271 + w)] M post px := by
  refine e_X9_takeWord (s_X9_isWord hw hl ht hk (fun z => z1A (s_X9_advance ht (p := wE b n q) ?_ (wE_hi hk.2.2.2.1) (fun M' a1 a2 => h1 z M' a1 a2))) (fun z => z0B (h0 z)))
  rw [hk.2.2.1, be_w (wd_w hl z)]
theorem s_X9_word {post : zM → Prop} {w : Nat} (hl : 0 < zLitL.getD w 0) (ht : tcC M b n) (hk : tkC M b n q) (hw : wdP b n q w) (h1 : ∀ M', tkC M' b n (tb b n (wE b n q)) → off20 M' M → post M') : zCv E jX9_advance D 0 [.ref 20] M post px :=
  s_X9_advance ht (p := wE b n q) (by rw [hk.2.2.1, be_w (wd_w hl hw)]) (wE_hi hk.2.2.2.1) h1
theorem s_X9_takeNumber {post : Int32 → zM → Prop} {lo hi : Nat} {x y : Int32} (hx : x = nI lo) (hy : y = nI hi) (hh : lo < 2 ^ 30 ∧ hi < 2 ^ 30) (ht : tcC M b n) (hk : tkC M b n q) (h1 : ∀ v, nuF b n q lo hi = some v → ∀ M', tkC M' b n (tb b n (dE b n q)) → off20 M' M → post (nI v) M') (h0 : nuF b n q lo hi = none → post (-1) M) : zCi E jX9_takeNumber (D + 1) 0 [.ref 20, .int x, .int y] M post px := by
  have k3 := kd_le (b := b) (n := n) (q := q)
  have n4 := ht.1
  have qn := hk.2.2.2.1
  have dh := dE_hi (b := b) qn
  have e : M.1 20 2 = 2 ↔ q < dE b n q := by rw [hk.2.1, ← kd_2 hk.2.2.2]; exact nI_eq (b := 2) (by omega) (by decide)
  have no : ¬ (q < dE b n q ∧ dE b n q ≤ q + 3 ∧ lo ≤ nuV b q (dE b n q - q) ∧ nuV b q (dE b n q - q) ≤ hi) → nuF b n q lo hi = none := fun z => if_neg z
  refine e_X9_takeNumber ⟨fun z => t_X9_takeNumber_21 (h0 (no (fun c => z (e.mpr c.1)))), fun z => ?_⟩
  have c := e.mp z
  have x4 : M.1 20 4 = nI (dE b n q) := by rw [hk.2.2.1, be_d hk.2.2.2 c]
  rw [x4, hk.1, pk_sub (by omega)]
  refine pk_le (dE b n q - q) 3 (fun c3 => ?_) (fun c3 => t_X9_takeNumber_21 (h0 (no (fun a => by omega))))
  have key := zup_loop (fun i => w_X9_takeNumber_31 E D post px x y (nI (nuV b q i)) (nI (q + i)) M) (dE b n q - q) (fun i hi ih => ?_) ?_ 0 (by omega)
  · exact key
  · have v9 := nuV_999 (b := b) (n := n) (q := q) (k := i) (by omega) (by omega)
    have dg := dE_dig (b := b) (n := n) (q := q) (i := i) (by omega)
    refine t_X9_takeNumber_31 (pk_le (dE b n q) (q + i) (fun z => absurd z (by omega)) (fun _ => ⟨pk_in (q + i) _ (by omega), ?_⟩) x4)
    rw [nI_clamp (n := q + i) (by omega), (ht.2.2 (q + i) (by omega)).1, show (10 : Int32) = nI 10 from rfl, pk_mul, nI_add, show (48 : Int32) = nI 48 from rfl, pk_sub (by omega), nI_1]
    exact ih
  · have v9 := nuV_999 (b := b) (n := n) (q := q) (k := dE b n q - q) (by omega) (by omega)
    refine t_X9_takeNumber_31 (pk_le (dE b n q) (q + (dE b n q - q)) (fun _ => ?_) (fun z => absurd z (by omega)) x4)
    refine pk_lt (nuV b q (dE b n q - q)) lo (fun z => t_X9_takeNumber_72 (h0 (no (fun a => by omega)))) (fun c4 => pk_le (nuV b q (dE b n q - q)) hi (fun c5 => ?_) (fun z => t_X9_takeNumber_72 (h0 (no (fun a => by omega)))) rfl hy) rfl hx
    exact s_X9_advance ht (p := dE b n q) x4 dh (fun M' a1 a2 => h1 _ (if_pos ⟨c, by omega, c4, c5⟩) M' a1 a2)
/-- a word that must stand there, a number behind it -/
def nfF (b : Nat → Nat) (n q w lo hi : Nat) : Sum Nat (Nat × Nat) := if wdP b n q w then (match nuF b n (tb b n (wE b n q)) lo hi with | some v => .inr (tb b n (dE b n (tb b n (wE b n q))), v) | none => .inl (tb b n (wE b n q))) else .inl q
theorem nf_no {w lo hi : Nat} (h : ¬ wdP b n q w) : nfF b n q w lo hi = .inl q := if_neg h
theorem nf_none {w lo hi : Nat} (h : wdP b n q w) (h2 : nuF b n (tb b n (wE b n q)) lo hi = none) : nfF b n q w lo hi = .inl (tb b n (wE b n q)) := by
  unfold nfF
  rw [if_pos h, h2]
theorem nf_some {w lo hi v : Nat} (h : wdP b n q w) (h2 : nuF b n (tb b n (wE b n q)) lo hi = some v) : nfF b n q w lo hi = .inr (tb b n (dE b n (tb b n (wE b n q))), v) := by
  unfold nfF
  rw [if_pos h, h2]
theorem nf_p {w lo hi : Nat} (hn : nbl b n q) (hl : 0 < zLitL.getD w 0) : (∀ e, nfF b n q w lo hi = .inl e → e ≤ n) ∧ ∀ r, nfF b n q w lo hi = .inr r → nbl b n r.1 ∧ q < r.1 ∧ lo ≤ r.2 ∧ r.2 ≤ hi := by
  by_cases c : wdP b n q w
  · have w1 := wd_w hl c
    have w2 := wE_hi (b := b) hn.1
    have n1 := nbl_tb (b := b) w2
    have t1 := tb_le (b := b) (n := n) (p := wE b n q)
    cases hv : nuF b n (tb b n (wE b n q)) lo hi with
    | none =>
      rw [nf_none c hv]
      refine ⟨fun e he => ?_, fun r hr => by cases hr⟩
      rw [← Sum.inl.inj he]
      exact n1.1
    | some v =>
      rw [nf_some c hv]
      refine ⟨fun e he => (by cases he), fun r hr => ?_⟩
      rw [← Sum.inr.inj hr]
      have d2 := dE_hi (b := b) n1.1
      have t2 := tb_le (b := b) (n := n) (p := dE b n (tb b n (wE b n q)))
      have v1 := nuF_some hv
      refine ⟨nbl_tb d2, ?_, v1.2⟩
      show q < tb b n (dE b n (tb b n (wE b n q)))
      omega
  · rw [nf_no c]
    refine ⟨fun e he => ?_, fun r hr => by cases hr⟩
    rw [← Sum.inl.inj he]
    exact hn.1
theorem s_X9_takeNumberAfter {post : Int32 → zM → Prop} {w lo hi : Nat} {x y : Int32} (hx : x = nI lo) (hy : y = nI hi) (hh : lo < 2 ^ 30 ∧ hi < 2 ^ 30) (hw : w < zLitN) (hl : 0 < zLitL.getD w 0) (ht : tcC M b n) (hk : tkC M b n q) (h1 : ∀ r, nfF b n q w lo hi = .inr r → ∀ M', tkC M' b n r.1 → off20 M' M → post (nI r.2) M') (h0 : ∀ e, nfF b n q w lo hi = .inl e → ∀ M', tkC M' b n e → off20 M' M → post (-1) M') : zCi E jX9_takeNumberAfter (D + 6) 0 [.ref 20, .ref (271 + w), .int x, .int y] M post px := by
  refine e_X9_takeNumberAfter (s_X9_takeWord hw hl ht hk (fun z M1 a1 a2 => z1B (s_X9_takeNumber hx hy hh (ht.off a2) a1 (fun v hv M' c1 c2 => t_X9_takeNumberAfter_18 (h1 _ (nf_some z hv) M' c1 (c2.trans a2))) (fun hv => t_X9_takeNumberAfter_18 (h0 _ (nf_none z hv) M1 a1 a2)))) (fun z => z0A (t_X9_takeNumberAfter_18 (h0 _ (nf_no z) M hk off20.refl))))
theorem s_X9_takeLetters {post : Int32 → zM → Prop} {m : Nat} {x : Int32} (hx : x = nI m) (hm : m ≤ 6) (ht : tcC M b n) (hk : tkC M b n q) (h1 : ∀ s, letF b n q m = some s → ∀ M', tkC M' b n (tb b n (wE b n q)) → off20 M' M → post (nI s) M') (h0 : letF b n q m = none → post (-1) M) : zCi E jX9_takeLetters (D + 1) 0 [.ref 20, .int x] M post px := by
  have k3 := kd_le (b := b) (n := n) (q := q)
  have n4 := ht.1
  have qn := hk.2.2.2.1
  have wh := wE_hi (b := b) qn
  have e : M.1 20 2 = 1 ↔ q < wE b n q := by rw [hk.2.1, ← kd_1]; exact nI_eq (b := 1) (by omega) (by decide)
  refine e_X9_takeLetters ⟨fun z => ?_, fun z => h0 (if_neg (fun c => z (e.mpr c)))⟩
  have c := e.mp z
  have x4 : M.1 20 4 = nI (wE b n q) := by rw [hk.2.2.1, be_w c]
  have eF : letF b n q m = leF b q m (wE b n q - q) := if_pos c
  have key := zup_loop (fun i => ∀ s, leF b q m i = some s → w_X9_takeLetters_17 E D post px x (nI s) (nI (q + i)) M) (wE b n q - q) (fun i hi ih s hs => ?_) (fun s hs => ?_) 0 (by omega)
  · rw [hk.1]; exact key 0 rfl
  · have dg := wE_let (b := b) (n := n) (q := q) (i := i) (by omega)
    have s6 := (leF_lt hs).1
    have b256 := (ht.2.2 (q + i) (by omega)).2
    have bad : ¬ (b (q + i) - 97 < m ∧ s.testBit (b (q + i) - 97) = false) → w_X9_takeLetters_56 E D post px M := fun q0 => t_X9_takeLetters_56 (h0 (by
      rw [eF, show wE b n q - q = (i + 1) + (wE b n q - q - (i + 1)) by omega]
      refine leF_none ?_ _
      unfold leF
      rw [hs]
      exact if_neg q0))
    refine t_X9_takeLetters_17 (pk_le (wE b n q) (q + i) (fun z => absurd z (by omega)) (fun _ => ⟨pk_in (q + i) _ (by omega), ?_⟩) x4)
    have ev : M.1 21 (nI (q + i)).toNatClampNeg - 97 = nI (b (q + i) - 97) := by
      rw [nI_clamp (n := q + i) (by omega), (ht.2.2 (q + i) (by omega)).1, show (97 : Int32) = nI 97 from rfl, pk_sub dg.1]
    rw [ev]
    refine ⟨fun z => absurd z (nI_pos (by omega)), fun _ => pk_le m (b (q + i) - 97) (fun z => bad (fun a => by omega)) (fun cm => ?_) hx⟩
    have t32 : b (q + i) - 97 < 32 := by omega
    have hb := has_N (x := s) t32
    have dec : ∀ y : Int32, y &&& 1 = 0 ↔ ¬ y &&& 1 = 1 := fun y => by
      have := pk_andE y (m := 1) 1 (by decide +kernel)
      obtain ⟨j, hj, ej⟩ := this
      rw [ej]
      match j, hj with
      | 0, _ => decide +kernel
      | 1, _ => decide +kernel
      | j + 2, hj => omega
    have test : (nI s >>> (nI (b (q + i) - 97) &&& 31)) &&& 1 = 0 ↔ s.testBit (b (q + i) - 97) = false := by
      rw [dec]
      have : (nI s >>> (nI (b (q + i) - 97) &&& 31)) &&& 1 = 1 ↔ s.testBit (b (q + i) - 97) = true := hb
      rw [this]
      exact iff_of_eq (Bool.not_eq_true _)
    refine ⟨fun a => ?_, fun a => bad (fun y => a (test.mpr y.2))⟩
    rw [nI_1, or_N t32]
    refine ih _ ?_
    unfold leF
    rw [hs]
    exact if_pos ⟨cm, test.mp a⟩
  · refine t_X9_takeLetters_17 (pk_le (wE b n q) (q + (wE b n q - q)) (fun _ => ?_) (fun z => absurd z (by omega)) x4)
    exact s_X9_advance ht (p := wE b n q) x4 wh (fun M' a1 a2 => h1 s (by rw [eF]; exact hs) M' a1 a2)
end TAPEC
