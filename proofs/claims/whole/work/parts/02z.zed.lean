/-! ===== Z: walks over a world of fixed shape (zShape): what varies is a store of numbers, M ===== -/
abbrev zM : Type := (Nat → Nat → Int32) × (Nat → Nat → Int64)
/-- launch; addresses (of the objects up to 271; of the literals from 271 on, of their bytes from 320 on, of the script 400, of a formatter 401); classes and slots; array classes; where the new cells begin; the script's length and ints -/
abbrev zEv : Type := Launch × (Nat → Nat) × va_G × (Nat → ClassId) × Nat × Nat × (Nat → Int32)
abbrev zl (E : zEv) : Launch := E.1
abbrev zad (E : zEv) : Nat → Nat := E.2.1
abbrev zD (E : zEv) : va_G := E.2.2.1
abbrev ztc (E : zEv) : Nat → ClassId := E.2.2.2.1
abbrev zb (E : zEv) : Nat := E.2.2.2.2.1
abbrev zLn (E : zEv) : Nat := E.2.2.2.2.2.1
abbrev zxs (E : zEv) : Nat → Int32 := E.2.2.2.2.2.2
abbrev zaK (E : zEv) : Nat → Nat := fun n => E.2.1 (271 + n)
abbrev zaV (E : zEv) : Nat → Nat := fun n => E.2.1 (320 + n)
def zA (E : zEv) : Nat → Prop := fun q => zb E ≤ q
/-- a value, with objects by their numbers, as the machine has it -/
def zV (E : zEv) : Value → Value
  | .ref o => .ref (zad E o)
  | v => v
def zFv (E : zEv) (f : Nat → Int32) (j : Nat) (x : Option Nat) : Value := match x with
  | some r => .ref (zad E r)
  | none => .int (f j)
/-- the courts of the row of courts -/
def zcourt (j : Nat) : Nat := 103 + 14 * j
def zArr (E : zEv) (M : zM) (o t n : Nat) : va_E := match t with
  | 3 => .inl (ztc E 3, n, .inr (.inl (M.2 o)))
  | 4 => .inl (ztc E 4, n, .inr (.inr (.inr (.inr (fun j => some (zad E (zcourt j)))))))
  | t => .inl (ztc E t, n, .inl (M.1 o))
def zEn (E : zEv) (M : zM) (o : Nat) : va_E := match zShape[o]? with
  | some (.inl c) => .inr (c.1, c.2.mapIdx (zFv E (M.1 o)))
  | some (.inr a) => zArr E M o a.1 a.2
  | none => .inr (0, [])
def zW (E : zEv) (M : zM) : va_W := (List.range 271).map (fun o => (zad E o, zEn E M o))
def zts (E : zEv) : List (ClassId × FieldType) := [(ztc E 0, .int), (ztc E 1, .byte), (ztc E 2, .boolean), (ztc E 3, .long), (ztc E 4, .object "BlushCourt$Court")]
theorem zlt {o : Nat} {x : zSh} (h : zShape[o]? = some x) : o < 271 := by
  have h1 := (List.getElem?_eq_some_iff.mp h).1
  rwa [zShape_len] at h1
theorem zW_at (E : zEv) (M : zM) {o : Nat} {x : zSh} (h : zShape[o]? = some x) : (zW E M)[o]? = some (zad E o, zEn E M o) := by
  simp [zW, zlt h]
theorem zW_obj (E : zEv) (M : zM) {o ci : Nat} {fs : List (Option Nat)} (h : zShape[o]? = some (.inl (ci, fs))) : (zW E M)[o]? = some (zad E o, .inr (ci, fs.mapIdx (zFv E (M.1 o)))) := by
  rw [zW_at E M h]; simp [zEn, h]
theorem zW_arr (E : zEv) (M : zM) {o t n : Nat} (h : zShape[o]? = some (.inr (t, n))) : (zW E M)[o]? = some (zad E o, zArr E M o t n) := by
  rw [zW_at E M h]; simp [zEn, h]
/-- a number written -/
def zup (M : zM) (o j : Nat) (v : Int32) : zM := (fun a i => if a = o ∧ i = j then v else M.1 a i, M.2)
def zupL (M : zM) (o j : Nat) (v : Int64) : zM := (M.1, fun a i => if a = o ∧ i = j then v else M.2 a i)
/-- a row written whole -/
def zrow (M : zM) (o : Nat) (f : Nat → Int32) : zM := (fun a i => if a = o then f i else M.1 a i, M.2)
def zrowL (M : zM) (o : Nat) (f : Nat → Int64) : zM := (M.1, fun a i => if a = o then f i else M.2 a i)
theorem zW_set {E : zEv} {M M' : zM} {o : Nat} {e : va_E} (he : zEn E M' o = e) (hne : ∀ a, a ≠ o → zEn E M' a = zEn E M a) : (zW E M).set o (zad E o, e) = zW E M' := by
  apply List.ext_getElem?
  intro i
  subst he
  by_cases hi : i < 271
  · by_cases h : o = i
    · subst h
      simp [zW, hi]
    · simp [zW, hi, h, hne i (fun z => h z.symm)]
  · have h1 : ((zW E M).set o (zad E o, zEn E M' o))[i]? = none := by simp [zW]; omega
    have h2 : (zW E M')[i]? = none := by simp [zW]; omega
    rw [h1, h2]
theorem zEn_ne {E : zEv} {M : zM} {o j : Nat} {v : Int32} (a : Nat) (h : a ≠ o) : zEn E (zup M o j v) a = zEn E M a := by
  have e : (zup M o j v).1 a = M.1 a := by funext i; simp [zup, h]
  have e2 : (zup M o j v).2 a = M.2 a := rfl
  unfold zEn zArr
  rw [e, e2]
theorem zEn_neL {E : zEv} {M : zM} {o j : Nat} {v : Int64} (a : Nat) (h : a ≠ o) : zEn E (zupL M o j v) a = zEn E M a := by
  have e : (zupL M o j v).2 a = M.2 a := by funext i; simp [zupL, h]
  have e2 : (zupL M o j v).1 a = M.1 a := rfl
  unfold zEn zArr
  rw [e, e2]
theorem zEn_neR {E : zEv} {M : zM} {o : Nat} {f : Nat → Int32} (a : Nat) (h : a ≠ o) : zEn E (zrow M o f) a = zEn E M a := by
  have e : (zrow M o f).1 a = M.1 a := by funext i; simp [zrow, h]
  have e2 : (zrow M o f).2 a = M.2 a := rfl
  unfold zEn zArr
  rw [e, e2]
theorem zEn_neRL {E : zEv} {M : zM} {o : Nat} {f : Nat → Int64} (a : Nat) (h : a ≠ o) : zEn E (zrowL M o f) a = zEn E M a := by
  have e : (zrowL M o f).2 a = M.2 a := by funext i; simp [zrowL, h]
  have e2 : (zrowL M o f).1 a = M.1 a := rfl
  unfold zEn zArr
  rw [e, e2]
theorem zup_row (M : zM) (o j : Nat) (v : Int32) : (zup M o j v).1 o = upd (M.1 o) j v := by funext i; simp [zup, upd]
theorem zupL_row (M : zM) (o j : Nat) (v : Int64) : (zupL M o j v).2 o = vp_updL (M.2 o) j v := by funext i; simp [zupL, vp_updL]
theorem zrow_row (M : zM) (o : Nat) (f : Nat → Int32) : (zrow M o f).1 o = f := by funext i; simp [zrow]
theorem zrowL_row (M : zM) (o : Nat) (f : Nat → Int64) : (zrowL M o f).2 o = f := by funext i; simp [zrowL]
theorem zSet_obj {E : zEv} {M : zM} {o ci j : Nat} {v : Int32} {fs : List (Option Nat)} (h : zShape[o]? = some (.inl (ci, fs))) (hj : fs[j]? = some none) : (zW E M).set o (zad E o, .inr (ci, (fs.mapIdx (zFv E (M.1 o))).set j (.int v))) = zW E (zup M o j v) := by
  refine zW_set ?_ (fun a ha => zEn_ne a ha)
  simp only [zEn, h, zup_row]
  congr 2
  apply List.ext_getElem?
  intro i
  by_cases hi : j = i
  · subst hi
    obtain ⟨hl, he⟩ := List.getElem?_eq_some_iff.mp hj
    simp [hl, he, zFv, upd]
  · simp only [List.getElem?_mapIdx, List.getElem?_set, hi, if_false]
    cases hq : fs[i]? with
    | none => rfl
    | some x => cases x <;> simp [zFv, upd, show ¬ i = j from fun z => hi z.symm]
theorem zSet_arr {E : zEv} {M : zM} {o t n i : Nat} {v : Int32} (h : zShape[o]? = some (.inr (t, n))) (ht : t < 3) : (zW E M).set o (zad E o, .inl (ztc E t, n, .inl (upd (M.1 o) i v))) = zW E (zup M o i v) := by
  refine zW_set ?_ (fun a ha => zEn_ne a ha)
  match t, ht with
  | 0, _ => simp only [zEn, h, zArr, zup_row]
  | 1, _ => simp only [zEn, h, zArr, zup_row]
  | 2, _ => simp only [zEn, h, zArr, zup_row]
theorem zSet_arrL {E : zEv} {M : zM} {o n i : Nat} {v : Int64} (h : zShape[o]? = some (.inr (3, n))) : (zW E M).set o (zad E o, .inl (ztc E 3, n, .inr (.inl (vp_updL (M.2 o) i v)))) = zW E (zupL M o i v) := by
  refine zW_set ?_ (fun a ha => zEn_neL a ha)
  simp only [zEn, h, zArr, zupL_row]
theorem zSet_row {E : zEv} {M : zM} {o t n : Nat} {f : Nat → Int32} (h : zShape[o]? = some (.inr (t, n))) (ht : t < 3) : (zW E M).set o (zad E o, .inl (ztc E t, n, .inl f)) = zW E (zrow M o f) := by
  refine zW_set ?_ (fun a ha => zEn_neR a ha)
  match t, ht with
  | 0, _ => simp only [zEn, h, zArr, zrow_row]
  | 1, _ => simp only [zEn, h, zArr, zrow_row]
  | 2, _ => simp only [zEn, h, zArr, zrow_row]
theorem zSet_rowL {E : zEv} {M : zM} {o n : Nat} {f : Nat → Int64} (h : zShape[o]? = some (.inr (3, n))) : (zW E M).set o (zad E o, .inl (ztc E 3, n, .inr (.inl f))) = zW E (zrowL M o f) := by
  refine zW_set ?_ (fun a ha => zEn_neRL a ha)
  simp only [zEn, h, zArr, zrowL_row]
theorem zArr_i {E : zEv} {M : zM} {o t n : Nat} (ht : t < 3) : zArr E M o t n = .inl (ztc E t, n, .inl (M.1 o)) := by
  match t, ht with
  | 0, _ => rfl
  | 1, _ => rfl
  | 2, _ => rfl
