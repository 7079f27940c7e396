/-! ===== the numbers' part: rows, counts, what stays ===== -/
abbrev zRow : Type := Nat → Int32
def isN (x : Int32) (b : Nat) : Prop := ∃ n, n ≤ b ∧ x = nI n
abbrev tn (x : Int32) : Nat := x.toNatClampNeg
theorem isN.eq {x : Int32} {b : Nat} (h : isN x b) (hb : b < 2 ^ 31) : x = nI (tn x) := by
  obtain ⟨n, h1, rfl⟩ := h
  rw [tn, nI_clamp (by omega)]
theorem isN.le {x : Int32} {b : Nat} (h : isN x b) (hb : b < 2 ^ 31) : tn x ≤ b := by
  obtain ⟨n, h1, rfl⟩ := h
  rw [tn, nI_clamp (by omega)]
  exact h1
theorem isN.of {n b : Nat} (h : n ≤ b) : isN (nI n) b := ⟨n, h, rfl⟩
theorem isN.mono {x : Int32} {a b : Nat} (h : isN x a) (hb : a ≤ b) : isN x b := by
  obtain ⟨n, h1, h2⟩ := h
  exact ⟨n, by omega, h2⟩
abbrev zv (x : Int32) (n : Nat) : Prop := ¬ x < 0 ∧ x < nI n
theorem zv.get {x : Int32} {n : Nat} (h : zv x n) (hn : n < 2 ^ 31) : ∃ q, q < n ∧ x = nI q := by
  obtain ⟨j, hj, rfl⟩ := nI_of h.1
  exact ⟨j, (nI_ltI hj hn).mp h.2, rfl⟩
theorem zv.of {q n : Nat} (h : q < n) (hn : n < 2 ^ 31) : zv (nI q) n := ⟨nI_pos (by omega), nI_lt h hn⟩
theorem zv_in {x : Int32} {n : Nat} (hn : n < 2 ^ 30) : ((0 : Int32) ≤ x ∧ x ≤ nI n - 1) ↔ zv x n := by
  have e : (nI n - 1).toInt = (n : Int) - 1 := pk_sub_toInt (b := 1) hn (by decide)
  have e2 : (nI n).toInt = (n : Int) := nI_toInt (by omega)
  have e0 : (0 : Int32).toInt = 0 := rfl
  unfold zv
  rw [fa_le, fa_le, fa_lt, fa_lt, e, e2, e0]
  omega
/-- sums, bits together -/
def sumI (g : Nat → Int32) : Nat → Int32
  | 0 => 0
  | n + 1 => sumI g n + g n
def orI (g : Nat → Int32) : Nat → Int32
  | 0 => 0
  | n + 1 => orI g n ||| g n
theorem sumI_cong {g h : Nat → Int32} : ∀ {n : Nat}, (∀ i, i < n → g i = h i) → sumI g n = sumI h n
  | 0, _ => rfl
  | n + 1, e => by rw [sumI, sumI, sumI_cong (fun i hi => e i (by omega)), e n (by omega)]
theorem orI_cong {g h : Nat → Int32} : ∀ {n : Nat}, (∀ i, i < n → g i = h i) → orI g n = orI h n
  | 0, _ => rfl
  | n + 1, e => by rw [orI, orI, orI_cong (fun i hi => e i (by omega)), e n (by omega)]
/-- a loop that counts up -/
theorem zup_loop (P : Nat → Prop) (n : Nat) (step : ∀ i, i < n → P (i + 1) → P i) (done : P n) : ∀ i, i ≤ n → P i := by
  intro i hi
  obtain ⟨d, hd⟩ : ∃ d, n = i + d := ⟨n - i, by omega⟩
  induction d generalizing i with
  | zero => rw [show i = n by omega]; exact done
  | succ d ih => exact step i (by omega) (ih (i + 1) (by omega) (by omega))
/-- a loop that counts down -/
theorem zdn_loop (P : Nat → Prop) (step : ∀ i, P i → P (i + 1)) (done : P 0) : ∀ i, P i
  | 0 => done
  | i + 1 => step i (zdn_loop P step done i)
abbrev wN (f : zRow) : Nat := tn (f 0)
abbrev tN (f : zRow) : Nat := tn (f 1)
abbrev qN (f : zRow) : Nat := tn (f 2)
abbrev kN (f : zRow) : Nat := tn (f 3)
abbrev gN (f : zRow) : Nat := tn (f 10)
/-- what is so, as bits -/
def soF (f : zRow) : Int32 := orI (fun t => f (54 + 3 * t + 2) <<< (nI t &&& 31)) (tN f)
/-- a row of the log, packed -/
def lgR (f : zRow) (k : Nat) (v : Int64) : Prop := ∃ mo w how qu by' : Nat, mo ≤ 9999 ∧ w < 5 ∧ how ≤ 2 ∧ qu ≤ 8 ∧ by' < 65536 ∧ f (72 + 5 * k) = nI mo ∧ f (72 + 5 * k + 1) = nI w ∧ f (72 + 5 * k + 2) = nI how ∧ f (72 + 5 * k + 3) = nI qu - 1 ∧ f (72 + 5 * k + 4) = nI by' ∧ v = lN ((((mo * 16 + w) * 16 + how) * 16 + qu) * 65536 + by')
def okW (f : zRow) (i : Nat) : Prop := isN (f (29 + 5 * i)) 9 ∧ isN (f (29 + 5 * i + 1)) 9 ∧ isN (f (29 + 5 * i + 2)) 99 ∧ isN (f (29 + 5 * i + 3)) 99 ∧ isN (f (29 + 5 * i + 4)) 4 ∧ tn (f (29 + 5 * i + 4)) < wN f ∧ isN (f (24 + i)) 4 ∧ tn (f (24 + i)) < wN f ∧ f (24 + tn (f (29 + 5 * i + 4))) = nI i ∧ f (29 + 5 * tn (f (24 + i)) + 4) = nI i
def okT (f : zRow) (t : Nat) : Prop := isN (f (54 + 3 * t)) 9 ∧ 0 < tn (f (54 + 3 * t)) ∧ isN (f (54 + 3 * t + 1)) 31 ∧ isN (f (54 + 3 * t + 2)) 1
/-- a court's row as it may be -/
def okF (f : zRow) : Prop :=
  (isN (f 0) 5 ∧ isN (f 1) 6 ∧ isN (f 2) 8 ∧ isN (f 3) 4 ∧ isN (f 4) 12 ∧ isN (f 5) 1 ∧ isN (f 6) 9999 ∧ isN (f 7) 9 ∧ isN (f 8) 100 ∧ isN (f 9) 100 ∧ isN (f 10) 60) ∧
  (∀ i, i < wN f → okW f i) ∧ (∀ t, t < tN f → okT f t) ∧ (∀ q, q < qN f → isN (f (12 + q)) (2 ^ tN f - 1)) ∧ (∀ k, k < kN f → isN (f (20 + k)) 20 ∧ 0 < tn (f (20 + k)))
/-- the class's court at b is the court of the row f -/
def cR1 (M : zM) (b : Nat) (f : zRow) : Prop := M.1 (b + 1) 6 = f 0 ∧ M.1 b 6 = f 1 ∧ M.1 b 7 = f 2 ∧ M.1 b 8 = f 3 ∧ M.1 b 9 = f 4 ∧ M.1 b 10 = soF f ∧ M.1 b 11 = f 7 ∧ M.1 b 12 = f 8 ∧ M.1 b 13 = f 9 ∧ M.1 b 14 = f 6 ∧ M.1 b 15 = f 11
def cR2 (M : zM) (b : Nat) (f : zRow) (i : Nat) : Prop := M.1 (b + 2) i = f (29 + 5 * i) ∧ M.1 (b + 3) i = f (29 + 5 * i + 1) ∧ M.1 (b + 4) i = f (29 + 5 * i + 2) ∧ M.1 (b + 5) i = f (29 + 5 * i + 3) ∧ M.1 (b + 6) i = f (29 + 5 * i + 4) ∧ M.1 (b + 7) i = f (24 + i)
def cRl (M : zM) (b : Nat) (f : zRow) : Prop := M.1 (b + 8) 1 = f 10 ∧ ∃ nx, nx < 60 ∧ M.1 (b + 8) 2 = nI nx ∧ ∀ k, k < gN f → lgR f k (M.2 (b + 9) ((nx + 59 - k) % 60))
def cR (M : zM) (b : Nat) (f : zRow) : Prop :=
  cR1 M b f ∧ (∀ i, i < wN f → cR2 M b f i) ∧ (∀ t, t < tN f → M.1 (b + 10) t = f (54 + 3 * t) ∧ M.1 (b + 11) t = f (54 + 3 * t + 1)) ∧ (∀ q, q < qN f → M.1 (b + 12) q = f (12 + q)) ∧ (∀ k, k < kN f → M.1 (b + 13) k = f (20 + k)) ∧ cRl M b f
/-! the law's code: what each step does to a stack of kinds (true: a truth, false: a number) -/
def stepK (s : Int32) (st : List Bool) : Option (List Bool) :=
  if s = 8 ∨ s = 9 ∨ s = 10 then some (true :: st)
  else if s < 12 then some (false :: st)
  else match st with
    | [] => none
    | a :: st1 => if s = 15 then (if a = true then some (true :: st1) else none)
      else match st1 with
        | [] => none
        | b :: st2 => if s = 12 then (if a = false ∧ b = false then some (false :: st2) else none)
          else if s = 13 ∨ s = 14 then (if a = false ∧ b = false then some (true :: st2) else none)
          else (if a = true ∧ b = true then some (true :: st2) else none)
/-- n steps from i on; the stack never holds more than 30 -/
def runK (c : Nat → Int32) : Nat → Nat → List Bool → Option (List Bool)
  | 0, _, st => some st
  | n + 1, i, st => match stepK (c i) st with
    | none => none
    | some st1 => if st1.length ≤ 30 then runK c n (i + 1) st1 else none
/-- a step of the reference (s, n) as the class has it -/
def stepC (s n : Int32) : Int32 := if s < 11 then -1 - s else if s = 11 then n else if s = 12 then -21 else if s = 13 then -22 else if s = 14 then -23 else if s = 15 then -20 else if s = 16 then -24 else -25
/-- one line of the law at l: from p to e -/
def lawL (M : zM) (b : Nat) (f : zRow) (l p e : Nat) : Prop :=
  p ≤ e ∧ e ≤ 400 ∧ isN (f (373 + 4 * l)) 2 ∧ isN (f (373 + 4 * l + 1)) 99 ∧ f (373 + 4 * l + 2) = nI p ∧ f (373 + 4 * l + 3) = nI e ∧ M.1 (b + 1) l = f (373 + 4 * l) ∧ M.1 (b + 2) l = f (373 + 4 * l + 1) ∧ M.1 (b + 3) l = nI e ∧
  (∀ i, p ≤ i → i < e → isN (f (421 + 2 * i)) 17 ∧ isN (f (421 + 2 * i + 1)) 999 ∧ M.1 (b + 4) i = stepC (f (421 + 2 * i)) (f (421 + 2 * i + 1))) ∧ (p < e → runK (fun i => f (421 + 2 * i)) (e - p) p [] = some [true])
/-- the class's law at b is the law of the row f -/
def lawR (M : zM) (b : Nat) (f : zRow) : Prop := (f 5 = 0 → M.1 b 6 = -1) ∧ (f 5 = 1 → ∃ n : Nat, n ≤ 12 ∧ f 372 = nI n ∧ M.1 b 6 = nI n ∧ ∃ en : Nat → Nat, ∀ l, l < n → lawL M b f l (if l = 0 then 0 else en (l - 1)) (en l))
def tapeR (M : zM) : Prop := ∃ n, n ≤ 400 ∧ M.1 20 1 = nI n ∧ M.1 0 9 = nI n ∧ ∀ j, j < 400 → ∃ v, v < 256 ∧ M.1 21 j = nI v ∧ M.1 6 j = (nI v).toInt8.toInt32
def imgR (M : zM) : Prop := M.1 19 12 = M.1 0 6 ∧ (M.1 0 6 = 0 ∨ M.1 0 6 = 1 ∧ okF (M.1 2) ∧ cR M 89 (M.1 2) ∧ lawR M 29 (M.1 2))
def hisR (M : zM) : Prop := ∃ h nx, h ≤ 12 ∧ nx < 12 ∧ M.1 0 7 = nI h ∧ M.1 59 1 = nI h ∧ M.1 59 2 = nI nx ∧ ∀ k, k < h → okF (fun j => M.1 5 (372 * (h - 1 - k) + j)) ∧ cR M (zcourt ((nx + 11 - k) % 12)) (fun j => M.1 5 (372 * (h - 1 - k) + j)) ∧ M.1 5 (372 * (h - 1 - k) + 5) = M.1 1 5
def Rel0 (M : zM) : Prop := okF (M.1 1) ∧ cR M 61 (M.1 1) ∧ lawR M 36 (M.1 1) ∧ tapeR M ∧ M.1 19 11 = M.1 0 14 ∧ imgR M ∧ hisR M
/-- what is scratch alone -/
def irr (o j : Nat) : Bool := match o with
  | 0 => Nat.beq j 0 || Nat.beq j 10 || Nat.beq j 11 || Nat.beq j 12 || Nat.beq j 13 || Nat.beq j 16
  | 20 => Nat.ble 2 j
  | o => Nat.ble 3 o && Nat.ble o 4 || Nat.ble 7 o && Nat.ble o 18 || Nat.ble 22 o && Nat.ble o 28 || Nat.ble 34 o && Nat.ble o 35 || Nat.ble 41 o && Nat.ble o 42 || Nat.ble 44 o && Nat.ble o 58 || Nat.ble 75 o && Nat.ble o 88
def zpi (M : zM) : zM := (fun o j => bif irr o j then 0 else M.1 o j, fun o j => bif irr o j then 0 else M.2 o j)
def Rel (M : zM) : Prop := Rel0 (zpi M)
theorem Rel.same {M M' : zM} (h : Rel M) (e : zpi M' = zpi M) : Rel M' := by unfold Rel; rw [e]; exact h
theorem zpi_at {M M' : zM} (e : zpi M' = zpi M) {o j : Nat} (h : irr o j = false) : M'.1 o j = M.1 o j := by
  have h2 := congrFun (congrFun (congrArg Prod.fst e) o) j
  simpa [zpi, h] using h2
theorem zpi_atL {M M' : zM} (e : zpi M' = zpi M) {o j : Nat} (h : irr o j = false) : M'.2 o j = M.2 o j := by
  have h2 := congrFun (congrFun (congrArg Prod.snd e) o) j
  simpa [zpi, h] using h2
theorem zpi_w {M M' : zM} (e : zpi M' = zpi M) : M'.1 1 = M.1 1 := funext fun j => zpi_at e rfl
theorem zpi_of {M M' : zM} (h : ∀ o j, irr o j = false → M'.1 o j = M.1 o j ∧ M'.2 o j = M.2 o j) : zpi M' = zpi M := by
  unfold zpi
  congr 1
  · funext o j
    cases hi : irr o j with
    | true => rfl
    | false => exact (h o j hi).1
  · funext o j
    cases hi : irr o j with
    | true => rfl
    | false => exact (h o j hi).2
theorem zpi_up {M : zM} {o j : Nat} {v : Int32} (h : irr o j = true) : zpi (zup M o j v) = zpi M := by
  refine zpi_of fun a i hi => ⟨?_, rfl⟩
  show (if a = o ∧ i = j then v else M.1 a i) = _
  rw [if_neg]
  rintro ⟨rfl, rfl⟩
  rw [h] at hi
  cases hi
theorem zpi_upL {M : zM} {o j : Nat} {v : Int64} (h : irr o j = true) : zpi (zupL M o j v) = zpi M := by
  refine zpi_of fun a i hi => ⟨rfl, ?_⟩
  show (if a = o ∧ i = j then v else M.2 a i) = _
  rw [if_neg]
  rintro ⟨rfl, rfl⟩
  rw [h] at hi
  cases hi
theorem zpi_row {M : zM} {o : Nat} {g : Nat → Int32} (h : ∀ j, irr o j = true) : zpi (zrow M o g) = zpi M := by
  refine zpi_of fun a i hi => ⟨?_, rfl⟩
  show (if a = o then g i else M.1 a i) = _
  rw [if_neg]
  rintro rfl
  rw [h] at hi
  cases hi
theorem Rel.ok {M : zM} (h : Rel M) : okF (M.1 1) := h.1
theorem Rel.now {M : zM} (h : Rel M) : cR M 61 (M.1 1) := h.2.1
theorem Rel.law {M : zM} (h : Rel M) : lawR M 36 (M.1 1) := h.2.2.1
theorem Rel.tape {M : zM} (h : Rel M) : tapeR M := h.2.2.2.1
theorem Rel.wrong {M : zM} (h : Rel M) : M.1 19 11 = M.1 0 14 := h.2.2.2.2.1
theorem Rel.img {M : zM} (h : Rel M) : imgR M := h.2.2.2.2.2.1
section OKF
variable {f : zRow}
theorem okF.w (h : okF f) : f 0 = nI (wN f) ∧ wN f ≤ 5 := ⟨h.1.1.eq (by decide), h.1.1.le (by decide)⟩
theorem okF.t (h : okF f) : f 1 = nI (tN f) ∧ tN f ≤ 6 := ⟨h.1.2.1.eq (by decide), h.1.2.1.le (by decide)⟩
theorem okF.q (h : okF f) : f 2 = nI (qN f) ∧ qN f ≤ 8 := ⟨h.1.2.2.1.eq (by decide), h.1.2.2.1.le (by decide)⟩
theorem okF.k (h : okF f) : f 3 = nI (kN f) ∧ kN f ≤ 4 := ⟨h.1.2.2.2.1.eq (by decide), h.1.2.2.2.1.le (by decide)⟩
theorem okF.g (h : okF f) : f 10 = nI (gN f) ∧ gN f ≤ 60 := ⟨h.1.2.2.2.2.2.2.2.2.2.2.eq (by decide), h.1.2.2.2.2.2.2.2.2.2.2.le (by decide)⟩
end OKF
