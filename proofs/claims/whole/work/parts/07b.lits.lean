/-- the literals, each by one of its entries -/
def zRep : List (String × Nat) := [("BlushCourt$CourtText", 28), ("BlushCourt$CourtText", 101), ("BlushCourt$CourtText", 103), ("BlushCourt$CourtText", 105), ("BlushCourt$CourtText", 107), ("BlushCourt$CourtText", 50), ("BlushCourt$CourtText", 124), ("BlushCourt$CourtText", 126), ("BlushCourt$CourtText", 135), ("BlushCourt$CourtText", 58), ("BlushCourt$CourtText", 66), ("BlushCourt$CourtText", 146), ("BlushCourt$CourtText", 77), ("BlushCourt$CourtText", 85), ("BlushCourt$CourtText", 90), ("BlushCourt$CourtText", 94), ("BlushCourt", 108), ("BlushCourt", 118), ("BlushCourt$Law", 85), ("BlushCourt$Law", 90), ("BlushCourt$Law", 92), ("BlushCourt$Law", 75), ("BlushCourt$Law", 108), ("BlushCourt$Law", 116), ("BlushCourt$Law", 118), ("BlushCourt$Law", 120), ("BlushCourt$Law", 142), ("BlushCourt$Law", 106), ("BlushCourt$Law", 97), ("BlushCourt", 420), ("BlushCourt", 177), ("BlushCourt", 425), ("BlushCourt", 199), ("BlushCourt", 427), ("BlushCourt", 429), ("BlushCourt", 431), ("BlushCourt", 219), ("BlushCourt", 423), ("BlushCourt", 238), ("BlushCourt", 246), ("BlushCourt", 254), ("BlushCourt", 436), ("BlushCourt", 408)]
def zTm (w : Nat) : Term := Term.string (zRep.getD w ("", 0)).1 (zRep.getD w ("", 0)).2
def zVal (w : Nat) : Term := .field (zTm w) "java/lang/String" "value" "[B"
def st_sub : Cond → List Bool → Option Cond
  | c, [] => some c
  | .and a b, x :: p => match x with
    | true => st_sub a p
    | false => st_sub b p
  | _, _ :: _ => none
theorem st_subl {args : Array Value} {s : State} : ∀ (p : List Bool) {c d : Cond}, c.before args s = true → st_sub c p = some d → d.before args s = true := by
  intro p
  induction p with
  | nil =>
    intro c d h e
    have e2 : c = d := by cases c <;> exact Option.some.inj e
    rw [← e2]; exact h
  | cons x p ih =>
    intro c d h e
    cases c with
    | and a b =>
      rw [Cond.before_and, Bool.and_eq_true] at h
      cases x with
      | true => exact ih h.1 e
      | false => exact ih h.2 e
    | _ => cases e
def zLF (args : Array Value) (s : State) (w : Nat) : Prop := (Cond.exactly (zTm w) "java/lang/String").before args s = true ∧ (Cond.eq (.field (zTm w) "java/lang/String" "coder" "B") (.int 0)).before args s = true ∧ (Cond.arrayOf (zVal w) .byte).before args s = true ∧ (Cond.eq (.length (zVal w)) (.int (Int32.ofNat (zLitL.getD w 0)))).before args s = true ∧ ∀ j, j < zLitL.getD w 0 → (Cond.eq (.elem (zVal w) (.int (Int32.ofNat j))) (.int ((zLitB.getD w []).getD j 0))).before args s = true
section STF
variable {args : Array Value} {s : State}
theorem st_flat_0 (h : (Jvm.Cond.and given_1 narrow_1).before args s = true) : zLF args s 0 := by
  refine ⟨st_subl [false, true, true, true, false, true, true, true, false, true, false] h rfl, st_subl [false, true, true, true, false, true, true, true, false, false, true] h rfl, st_subl [false, true, true, true, false, true, true, true, false, false, false] h rfl, st_subl [false, true, true, true, false, true, true, false, true, true, true] h rfl, fun j hj => ?_⟩
  match j, hj with
  | 0, _ => exact st_subl [false, true, true, true, false, true, true, false, true, true, false] h rfl
  | 1, _ => exact st_subl [false, true, true, true, false, true, true, false, true, false, true] h rfl
  | 2, _ => exact st_subl [false, true, true, true, false, true, true, false, true, false, false] h rfl
  | 3, _ => exact st_subl [false, true, true, true, false, true, true, false, false, true, true] h rfl
  | 4, _ => exact st_subl [false, true, true, true, false, true, true, false, false, true, false] h rfl
  | 5, _ => exact st_subl [false, true, true, true, false, true, true, false, false, false, true] h rfl
  | 6, _ => exact st_subl [false, true, true, true, false, true, true, false, false, false, false] h rfl
  | n + 7, hj => exact absurd hj (by show ¬ n + 7 < 7; omega)
theorem st_flat_1 (h : (Jvm.Cond.and given_1 narrow_1).before args s = true) : zLF args s 1 := by
  refine ⟨st_subl [false, true, true, true, false, true, false, true, true, true, true] h rfl, st_subl [false, true, true, true, false, true, false, true, true, true, false] h rfl, st_subl [false, true, true, true, false, true, false, true, true, false, true] h rfl, st_subl [false, true, true, true, false, true, false, true, true, false, false] h rfl, fun j hj => ?_⟩
  match j, hj with
  | 0, _ => exact st_subl [false, true, true, true, false, true, false, true, false, true, true] h rfl
  | 1, _ => exact st_subl [false, true, true, true, false, true, false, true, false, true, false] h rfl
  | 2, _ => exact st_subl [false, true, true, true, false, true, false, true, false, false, true] h rfl
  | 3, _ => exact st_subl [false, true, true, true, false, true, false, true, false, false, false] h rfl
  | n + 4, hj => exact absurd hj (by show ¬ n + 4 < 4; omega)
theorem st_flat_2 (h : (Jvm.Cond.and given_1 narrow_1).before args s = true) : zLF args s 2 := by
  refine ⟨st_subl [false, true, true, true, false, true, false, false, true, true, true] h rfl, st_subl [false, true, true, true, false, true, false, false, true, true, false] h rfl, st_subl [false, true, true, true, false, true, false, false, true, false, true] h rfl, st_subl [false, true, true, true, false, true, false, false, true, false, false] h rfl, fun j hj => ?_⟩
  match j, hj with
  | 0, _ => exact st_subl [false, true, true, true, false, true, false, false, false, true, true] h rfl
  | 1, _ => exact st_subl [false, true, true, true, false, true, false, false, false, true, false] h rfl
  | 2, _ => exact st_subl [false, true, true, true, false, true, false, false, false, false, true] h rfl
  | 3, _ => exact st_subl [false, true, true, true, false, true, false, false, false, false, false] h rfl
  | 4, _ => exact st_subl [false, true, true, true, false, false, true, true, true, true, true] h rfl
  | n + 5, hj => exact absurd hj (by show ¬ n + 5 < 5; omega)
theorem st_flat_3 (h : (Jvm.Cond.and given_1 narrow_1).before args s = true) : zLF args s 3 := by
  refine ⟨st_subl [false, true, true, true, false, false, true, true, true, true, false] h rfl, st_subl [false, true, true, true, false, false, true, true, true, false, true] h rfl, st_subl [false, true, true, true, false, false, true, true, true, false, false] h rfl, st_subl [false, true, true, true, false, false, true, true, false, true, true] h rfl, fun j hj => ?_⟩
  match j, hj with
  | 0, _ => exact st_subl [false, true, true, true, false, false, true, true, false, true, false] h rfl
  | 1, _ => exact st_subl [false, true, true, true, false, false, true, true, false, false, true] h rfl
  | 2, _ => exact st_subl [false, true, true, true, false, false, true, true, false, false, false] h rfl
  | 3, _ => exact st_subl [false, true, true, true, false, false, true, false, true, true, true] h rfl
  | 4, _ => exact st_subl [false, true, true, true, false, false, true, false, true, true, false] h rfl
  | n + 5, hj => exact absurd hj (by show ¬ n + 5 < 5; omega)
theorem st_flat_4 (h : (Jvm.Cond.and given_1 narrow_1).before args s = true) : zLF args s 4 := by
  refine ⟨st_subl [false, true, true, true, false, false, true, false, true, false, true] h rfl, st_subl [false, true, true, true, false, false, true, false, true, false, false] h rfl, st_subl [false, true, true, true, false, false, true, false, false, true, true] h rfl, st_subl [false, true, true, true, false, false, true, false, false, true, false] h rfl, fun j hj => ?_⟩
  match j, hj with
  | 0, _ => exact st_subl [false, true, true, true, false, false, true, false, false, false, true] h rfl
  | 1, _ => exact st_subl [false, true, true, true, false, false, true, false, false, false, false] h rfl
  | 2, _ => exact st_subl [false, true, true, true, false, false, false, true, true, true, true] h rfl
  | 3, _ => exact st_subl [false, true, true, true, false, false, false, true, true, true, false] h rfl
  | 4, _ => exact st_subl [false, true, true, true, false, false, false, true, true, false, true] h rfl
  | n + 5, hj => exact absurd hj (by show ¬ n + 5 < 5; omega)
theorem st_flat_5 (h : (Jvm.Cond.and given_1 narrow_1).before args s = true) : zLF args s 5 := by
  refine ⟨st_subl [false, true, true, true, false, false, false, true, true, false, false] h rfl, st_subl [false, true, true, true, false, false, false, true, false, true, true] h rfl, st_subl [false, true, true, true, false, false, false, true, false, true, false] h rfl, st_subl [false, true, true, true, false, false, false, true, false, false, true] h rfl, fun j hj => ?_⟩
  match j, hj with
  | 0, _ => exact st_subl [false, true, true, true, false, false, false, true, false, false, false] h rfl
  | 1, _ => exact st_subl [false, true, true, true, false, false, false, false, true, true, true] h rfl
  | 2, _ => exact st_subl [false, true, true, true, false, false, false, false, true, true, false] h rfl
  | 3, _ => exact st_subl [false, true, true, true, false, false, false, false, true, false, true] h rfl
  | 4, _ => exact st_subl [false, true, true, true, false, false, false, false, true, false, false] h rfl
  | n + 5, hj => exact absurd hj (by show ¬ n + 5 < 5; omega)
theorem st_flat_6 (h : (Jvm.Cond.and given_1 narrow_1).before args s = true) : zLF args s 6 := by
  refine ⟨st_subl [false, true, true, true, false, false, false, false, false, true, true] h rfl, st_subl [false, true, true, true, false, false, false, false, false, true, false] h rfl, st_subl [false, true, true, true, false, false, false, false, false, false, true] h rfl, st_subl [false, true, true, true, false, false, false, false, false, false, false] h rfl, fun j hj => ?_⟩
  match j, hj with
  | 0, _ => exact st_subl [false, true, true, false, true, true, true, true, true, true, true] h rfl
  | 1, _ => exact st_subl [false, true, true, false, true, true, true, true, true, true, false] h rfl
  | 2, _ => exact st_subl [false, true, true, false, true, true, true, true, true, false, true] h rfl
  | 3, _ => exact st_subl [false, true, true, false, true, true, true, true, true, false, false] h rfl
  | 4, _ => exact st_subl [false, true, true, false, true, true, true, true, false, true, true] h rfl
  | 5, _ => exact st_subl [false, true, true, false, true, true, true, true, false, true, false] h rfl
  | n + 6, hj => exact absurd hj (by show ¬ n + 6 < 6; omega)
theorem st_flat_7 (h : (Jvm.Cond.and given_1 narrow_1).before args s = true) : zLF args s 7 := by
  refine ⟨st_subl [false, true, true, false, true, true, true, true, false, false, true] h rfl, st_subl [false, true, true, false, true, true, true, true, false, false, false] h rfl, st_subl [false, true, true, false, true, true, true, false, true, true, true] h rfl, st_subl [false, true, true, false, true, true, true, false, true, true, false] h rfl, fun j hj => ?_⟩
  match j, hj with
  | 0, _ => exact st_subl [false, true, true, false, true, true, true, false, true, false, true] h rfl
  | 1, _ => exact st_subl [false, true, true, false, true, true, true, false, true, false, false] h rfl
  | 2, _ => exact st_subl [false, true, true, false, true, true, true, false, false, true, true] h rfl
  | 3, _ => exact st_subl [false, true, true, false, true, true, true, false, false, true, false] h rfl
  | 4, _ => exact st_subl [false, true, true, false, true, true, true, false, false, false, true] h rfl
  | 5, _ => exact st_subl [false, true, true, false, true, true, true, false, false, false, false] h rfl
  | 6, _ => exact st_subl [false, true, true, false, true, true, false, true, true, true, true] h rfl
  | n + 7, hj => exact absurd hj (by show ¬ n + 7 < 7; omega)
theorem st_flat_8 (h : (Jvm.Cond.and given_1 narrow_1).before args s = true) : zLF args s 8 := by
  refine ⟨st_subl [false, true, true, false, true, true, false, true, true, true, false] h rfl, st_subl [false, true, true, false, true, true, false, true, true, false, true] h rfl, st_subl [false, true, true, false, true, true, false, true, true, false, false] h rfl, st_subl [false, true, true, false, true, true, false, true, false, true, true] h rfl, fun j hj => ?_⟩
  match j, hj with
  | 0, _ => exact st_subl [false, true, true, false, true, true, false, true, false, true, false] h rfl
  | 1, _ => exact st_subl [false, true, true, false, true, true, false, true, false, false, true] h rfl
  | n + 2, hj => exact absurd hj (by show ¬ n + 2 < 2; omega)
theorem st_flat_9 (h : (Jvm.Cond.and given_1 narrow_1).before args s = true) : zLF args s 9 := by
  refine ⟨st_subl [false, true, true, false, true, true, false, true, false, false, false] h rfl, st_subl [false, true, true, false, true, true, false, false, true, true, true] h rfl, st_subl [false, true, true, false, true, true, false, false, true, true, false] h rfl, st_subl [false, true, true, false, true, true, false, false, true, false, true] h rfl, fun j hj => ?_⟩
  match j, hj with
  | 0, _ => exact st_subl [false, true, true, false, true, true, false, false, true, false, false] h rfl
  | 1, _ => exact st_subl [false, true, true, false, true, true, false, false, false, true, true] h rfl
  | 2, _ => exact st_subl [false, true, true, false, true, true, false, false, false, true, false] h rfl
  | n + 3, hj => exact absurd hj (by show ¬ n + 3 < 3; omega)
theorem st_flat_10 (h : (Jvm.Cond.and given_1 narrow_1).before args s = true) : zLF args s 10 := by
  refine ⟨st_subl [false, true, true, false, true, true, false, false, false, false, true] h rfl, st_subl [false, true, true, false, true, true, false, false, false, false, false] h rfl, st_subl [false, true, true, false, true, false, true, true, true, true, true] h rfl, st_subl [false, true, true, false, true, false, true, true, true, true, false] h rfl, fun j hj => ?_⟩
  match j, hj with
  | 0, _ => exact st_subl [false, true, true, false, true, false, true, true, true, false, true] h rfl
  | 1, _ => exact st_subl [false, true, true, false, true, false, true, true, true, false, false] h rfl
  | 2, _ => exact st_subl [false, true, true, false, true, false, true, true, false, true, true] h rfl
  | 3, _ => exact st_subl [false, true, true, false, true, false, true, true, false, true, false] h rfl
  | 4, _ => exact st_subl [false, true, true, false, true, false, true, true, false, false, true] h rfl
  | n + 5, hj => exact absurd hj (by show ¬ n + 5 < 5; omega)
theorem st_flat_11 (h : (Jvm.Cond.and given_1 narrow_1).before args s = true) : zLF args s 11 := by
  refine ⟨st_subl [false, true, true, false, true, false, true, true, false, false, false] h rfl, st_subl [false, true, true, false, true, false, true, false, true, true, true] h rfl, st_subl [false, true, true, false, true, false, true, false, true, true, false] h rfl, st_subl [false, true, true, false, true, false, true, false, true, false, true] h rfl, fun j hj => ?_⟩
  match j, hj with
  | 0, _ => exact st_subl [false, true, true, false, true, false, true, false, true, false, false] h rfl
  | 1, _ => exact st_subl [false, true, true, false, true, false, true, false, false, true, true] h rfl
  | 2, _ => exact st_subl [false, true, true, false, true, false, true, false, false, true, false] h rfl
  | 3, _ => exact st_subl [false, true, true, false, true, false, true, false, false, false, true] h rfl
  | 4, _ => exact st_subl [false, true, true, false, true, false, true, false, false, false, false] h rfl
  | n + 5, hj => exact absurd hj (by show ¬ n + 5 < 5; omega)
theorem st_flat_12 (h : (Jvm.Cond.and given_1 narrow_1).before args s = true) : zLF args s 12 := by
  refine ⟨st_subl [false, true, true, false, true, false, false, true, true, true, true] h rfl, st_subl [false, true, true, false, true, false, false, true, true, true, false] h rfl, st_subl [false, true, true, false, true, false, false, true, true, false, true] h rfl, st_subl [false, true, true, false, true, false, false, true, true, false, false] h rfl, fun j hj => ?_⟩
  match j, hj with
  | 0, _ => exact st_subl [false, true, true, false, true, false, false, true, false, true, true] h rfl
  | 1, _ => exact st_subl [false, true, true, false, true, false, false, true, false, true, false] h rfl
  | 2, _ => exact st_subl [false, true, true, false, true, false, false, true, false, false, true] h rfl
  | 3, _ => exact st_subl [false, true, true, false, true, false, false, true, false, false, false] h rfl
  | n + 4, hj => exact absurd hj (by show ¬ n + 4 < 4; omega)
theorem st_flat_13 (h : (Jvm.Cond.and given_1 narrow_1).before args s = true) : zLF args s 13 := by
  refine ⟨st_subl [false, true, true, false, true, false, false, false, true, true, true] h rfl, st_subl [false, true, true, false, true, false, false, false, true, true, false] h rfl, st_subl [false, true, true, false, true, false, false, false, true, false, true] h rfl, st_subl [false, true, true, false, true, false, false, false, true, false, false] h rfl, fun j hj => ?_⟩
  match j, hj with
  | 0, _ => exact st_subl [false, true, true, false, true, false, false, false, false, true, true] h rfl
  | 1, _ => exact st_subl [false, true, true, false, true, false, false, false, false, true, false] h rfl
  | 2, _ => exact st_subl [false, true, true, false, true, false, false, false, false, false, true] h rfl
  | 3, _ => exact st_subl [false, true, true, false, true, false, false, false, false, false, false] h rfl
  | 4, _ => exact st_subl [false, true, true, false, false, true, true, true, true, true, true] h rfl
  | n + 5, hj => exact absurd hj (by show ¬ n + 5 < 5; omega)
theorem st_flat_14 (h : (Jvm.Cond.and given_1 narrow_1).before args s = true) : zLF args s 14 := by
  refine ⟨st_subl [false, true, true, false, false, true, true, true, true, true, false] h rfl, st_subl [false, true, true, false, false, true, true, true, true, false, true] h rfl, st_subl [false, true, true, false, false, true, true, true, true, false, false] h rfl, st_subl [false, true, true, false, false, true, true, true, false, true, true] h rfl, fun j hj => ?_⟩
  match j, hj with
  | 0, _ => exact st_subl [false, true, true, false, false, true, true, true, false, true, false] h rfl
  | 1, _ => exact st_subl [false, true, true, false, false, true, true, true, false, false, true] h rfl
  | 2, _ => exact st_subl [false, true, true, false, false, true, true, true, false, false, false] h rfl
  | 3, _ => exact st_subl [false, true, true, false, false, true, true, false, true, true, true] h rfl
  | n + 4, hj => exact absurd hj (by show ¬ n + 4 < 4; omega)
theorem st_flat_15 (h : (Jvm.Cond.and given_1 narrow_1).before args s = true) : zLF args s 15 := by
  refine ⟨st_subl [false, true, true, false, false, true, true, false, true, true, false] h rfl, st_subl [false, true, true, false, false, true, true, false, true, false, true] h rfl, st_subl [false, true, true, false, false, true, true, false, true, false, false] h rfl, st_subl [false, true, true, false, false, true, true, false, false, true, true] h rfl, fun j hj => ?_⟩
  match j, hj with
  | 0, _ => exact st_subl [false, true, true, false, false, true, true, false, false, true, false] h rfl
  | 1, _ => exact st_subl [false, true, true, false, false, true, true, false, false, false, true] h rfl
  | 2, _ => exact st_subl [false, true, true, false, false, true, true, false, false, false, false] h rfl
  | 3, _ => exact st_subl [false, true, true, false, false, true, false, true, true, true, true] h rfl
  | 4, _ => exact st_subl [false, true, true, false, false, true, false, true, true, true, false] h rfl
  | 5, _ => exact st_subl [false, true, true, false, false, true, false, true, true, false, true] h rfl
  | n + 6, hj => exact absurd hj (by show ¬ n + 6 < 6; omega)
theorem st_flat_16 (h : (Jvm.Cond.and given_1 narrow_1).before args s = true) : zLF args s 16 := by
  refine ⟨st_subl [false, true, true, false, false, true, false, true, true, false, false] h rfl, st_subl [false, true, true, false, false, true, false, true, false, true, true] h rfl, st_subl [false, true, true, false, false, true, false, true, false, true, false] h rfl, st_subl [false, true, true, false, false, true, false, true, false, false, true] h rfl, fun j hj => ?_⟩
  match j, hj with
  | 0, _ => exact st_subl [false, true, true, false, false, true, false, true, false, false, false] h rfl
  | 1, _ => exact st_subl [false, true, true, false, false, true, false, false, true, true, true] h rfl
  | 2, _ => exact st_subl [false, true, true, false, false, true, false, false, true, true, false] h rfl
  | 3, _ => exact st_subl [false, true, true, false, false, true, false, false, true, false, true] h rfl
  | 4, _ => exact st_subl [false, true, true, false, false, true, false, false, true, false, false] h rfl
  | 5, _ => exact st_subl [false, true, true, false, false, true, false, false, false, true, true] h rfl
  | 6, _ => exact st_subl [false, true, true, false, false, true, false, false, false, true, false] h rfl
  | 7, _ => exact st_subl [false, true, true, false, false, true, false, false, false, false, true] h rfl
  | 8, _ => exact st_subl [false, true, true, false, false, true, false, false, false, false, false] h rfl
  | 9, _ => exact st_subl [false, true, true, false, false, false, true, true, true, true, true] h rfl
  | 10, _ => exact st_subl [false, true, true, false, false, false, true, true, true, true, false] h rfl
  | 11, _ => exact st_subl [false, true, true, false, false, false, true, true, true, false, true] h rfl
  | 12, _ => exact st_subl [false, true, true, false, false, false, true, true, true, false, false] h rfl
  | 13, _ => exact st_subl [false, true, true, false, false, false, true, true, false, true, true] h rfl
  | 14, _ => exact st_subl [false, true, true, false, false, false, true, true, false, true, false] h rfl
  | 15, _ => exact st_subl [false, true, true, false, false, false, true, true, false, false, true] h rfl
  | 16, _ => exact st_subl [false, true, true, false, false, false, true, true, false, false, false] h rfl
  | n + 17, hj => exact absurd hj (by show ¬ n + 17 < 17; omega)
theorem st_flat_17 (h : (Jvm.Cond.and given_1 narrow_1).before args s = true) : zLF args s 17 := by
  refine ⟨st_subl [false, true, true, false, false, false, true, false, true, true, true] h rfl, st_subl [false, true, true, false, false, false, true, false, true, true, false] h rfl, st_subl [false, true, true, false, false, false, true, false, true, false, true] h rfl, st_subl [false, true, true, false, false, false, true, false, true, false, false] h rfl, fun j hj => ?_⟩
  match j, hj with
  | 0, _ => exact st_subl [false, true, true, false, false, false, true, false, false, true, true] h rfl
  | 1, _ => exact st_subl [false, true, true, false, false, false, true, false, false, true, false] h rfl
  | 2, _ => exact st_subl [false, true, true, false, false, false, true, false, false, false, true] h rfl
  | 3, _ => exact st_subl [false, true, true, false, false, false, true, false, false, false, false] h rfl
  | 4, _ => exact st_subl [false, true, true, false, false, false, false, true, true, true, true] h rfl
  | 5, _ => exact st_subl [false, true, true, false, false, false, false, true, true, true, false] h rfl
  | 6, _ => exact st_subl [false, true, true, false, false, false, false, true, true, false, true] h rfl
  | 7, _ => exact st_subl [false, true, true, false, false, false, false, true, true, false, false] h rfl
  | 8, _ => exact st_subl [false, true, true, false, false, false, false, true, false, true, true] h rfl
  | 9, _ => exact st_subl [false, true, true, false, false, false, false, true, false, true, false] h rfl
  | 10, _ => exact st_subl [false, true, true, false, false, false, false, true, false, false, true] h rfl
  | 11, _ => exact st_subl [false, true, true, false, false, false, false, true, false, false, false] h rfl
  | 12, _ => exact st_subl [false, true, true, false, false, false, false, false, true, true, true] h rfl
  | 13, _ => exact st_subl [false, true, true, false, false, false, false, false, true, true, false] h rfl
  | 14, _ => exact st_subl [false, true, true, false, false, false, false, false, true, false, true] h rfl
  | 15, _ => exact st_subl [false, true, true, false, false, false, false, false, true, false, false] h rfl
  | 16, _ => exact st_subl [false, true, true, false, false, false, false, false, false, true, true] h rfl
  | 17, _ => exact st_subl [false, true, true, false, false, false, false, false, false, true, false] h rfl
  | 18, _ => exact st_subl [false, true, true, false, false, false, false, false, false, false, true] h rfl
  | 19, _ => exact st_subl [false, true, true, false, false, false, false, false, false, false, false, true] h rfl
  | 20, _ => exact st_subl [false, true, true, false, false, false, false, false, false, false, false, false] h rfl
  | 21, _ => exact st_subl [false, true, false, true, true, true, true, true, true, true, true] h rfl
  | 22, _ => exact st_subl [false, true, false, true, true, true, true, true, true, true, false] h rfl
  | 23, _ => exact st_subl [false, true, false, true, true, true, true, true, true, false, true] h rfl
  | 24, _ => exact st_subl [false, true, false, true, true, true, true, true, true, false, false] h rfl
  | 25, _ => exact st_subl [false, true, false, true, true, true, true, true, false, true, true] h rfl
  | 26, _ => exact st_subl [false, true, false, true, true, true, true, true, false, true, false] h rfl
  | 27, _ => exact st_subl [false, true, false, true, true, true, true, true, false, false, true] h rfl
  | 28, _ => exact st_subl [false, true, false, true, true, true, true, true, false, false, false] h rfl
  | 29, _ => exact st_subl [false, true, false, true, true, true, true, false, true, true, true] h rfl
  | 30, _ => exact st_subl [false, true, false, true, true, true, true, false, true, true, false] h rfl
  | 31, _ => exact st_subl [false, true, false, true, true, true, true, false, true, false, true] h rfl
  | 32, _ => exact st_subl [false, true, false, true, true, true, true, false, true, false, false] h rfl
  | 33, _ => exact st_subl [false, true, false, true, true, true, true, false, false, true, true] h rfl
  | 34, _ => exact st_subl [false, true, false, true, true, true, true, false, false, true, false] h rfl
  | 35, _ => exact st_subl [false, true, false, true, true, true, true, false, false, false, true] h rfl
  | 36, _ => exact st_subl [false, true, false, true, true, true, true, false, false, false, false] h rfl
  | 37, _ => exact st_subl [false, true, false, true, true, true, false, true, true, true, true] h rfl
  | 38, _ => exact st_subl [false, true, false, true, true, true, false, true, true, true, false] h rfl
  | n + 39, hj => exact absurd hj (by show ¬ n + 39 < 39; omega)
theorem st_flat_18 (h : (Jvm.Cond.and given_1 narrow_1).before args s = true) : zLF args s 18 := by
  refine ⟨st_subl [false, true, false, true, true, true, false, true, true, false, true] h rfl, st_subl [false, true, false, true, true, true, false, true, true, false, false] h rfl, st_subl [false, true, false, true, true, true, false, true, false, true, true] h rfl, st_subl [false, true, false, true, true, true, false, true, false, true, false] h rfl, fun j hj => ?_⟩
  match j, hj with
  | 0, _ => exact st_subl [false, true, false, true, true, true, false, true, false, false, true] h rfl
  | 1, _ => exact st_subl [false, true, false, true, true, true, false, true, false, false, false] h rfl
  | 2, _ => exact st_subl [false, true, false, true, true, true, false, false, true, true, true] h rfl
  | 3, _ => exact st_subl [false, true, false, true, true, true, false, false, true, true, false] h rfl
  | n + 4, hj => exact absurd hj (by show ¬ n + 4 < 4; omega)
theorem st_flat_19 (h : (Jvm.Cond.and given_1 narrow_1).before args s = true) : zLF args s 19 := by
  refine ⟨st_subl [false, true, false, true, true, true, false, false, true, false, true] h rfl, st_subl [false, true, false, true, true, true, false, false, true, false, false] h rfl, st_subl [false, true, false, true, true, true, false, false, false, true, true] h rfl, st_subl [false, true, false, true, true, true, false, false, false, true, false] h rfl, fun j hj => ?_⟩
  match j, hj with
  | 0, _ => exact st_subl [false, true, false, true, true, true, false, false, false, false, true] h rfl
  | 1, _ => exact st_subl [false, true, false, true, true, true, false, false, false, false, false] h rfl
  | 2, _ => exact st_subl [false, true, false, true, true, false, true, true, true, true, true] h rfl
  | 3, _ => exact st_subl [false, true, false, true, true, false, true, true, true, true, false] h rfl
  | n + 4, hj => exact absurd hj (by show ¬ n + 4 < 4; omega)
theorem st_flat_20 (h : (Jvm.Cond.and given_1 narrow_1).before args s = true) : zLF args s 20 := by
  refine ⟨st_subl [false, true, false, true, true, false, true, true, true, false, true] h rfl, st_subl [false, true, false, true, true, false, true, true, true, false, false] h rfl, st_subl [false, true, false, true, true, false, true, true, false, true, true] h rfl, st_subl [false, true, false, true, true, false, true, true, false, true, false] h rfl, fun j hj => ?_⟩
  match j, hj with
  | 0, _ => exact st_subl [false, true, false, true, true, false, true, true, false, false, true] h rfl
  | 1, _ => exact st_subl [false, true, false, true, true, false, true, true, false, false, false] h rfl
  | 2, _ => exact st_subl [false, true, false, true, true, false, true, false, true, true, true] h rfl
  | 3, _ => exact st_subl [false, true, false, true, true, false, true, false, true, true, false] h rfl
  | n + 4, hj => exact absurd hj (by show ¬ n + 4 < 4; omega)
theorem st_flat_21 (h : (Jvm.Cond.and given_1 narrow_1).before args s = true) : zLF args s 21 := by
  refine ⟨st_subl [false, true, false, true, true, false, true, false, true, false, true] h rfl, st_subl [false, true, false, true, true, false, true, false, true, false, false] h rfl, st_subl [false, true, false, true, true, false, true, false, false, true, true] h rfl, st_subl [false, true, false, true, true, false, true, false, false, true, false] h rfl, fun j hj => ?_⟩
  match j, hj with
  | 0, _ => exact st_subl [false, true, false, true, true, false, true, false, false, false, true] h rfl
  | 1, _ => exact st_subl [false, true, false, true, true, false, true, false, false, false, false] h rfl
  | n + 2, hj => exact absurd hj (by show ¬ n + 2 < 2; omega)
theorem st_flat_22 (h : (Jvm.Cond.and given_1 narrow_1).before args s = true) : zLF args s 22 := by
  refine ⟨st_subl [false, true, false, true, true, false, false, true, true, true, true] h rfl, st_subl [false, true, false, true, true, false, false, true, true, true, false] h rfl, st_subl [false, true, false, true, true, false, false, true, true, false, true] h rfl, st_subl [false, true, false, true, true, false, false, true, true, false, false] h rfl, fun j hj => ?_⟩
  match j, hj with
  | 0, _ => exact st_subl [false, true, false, true, true, false, false, true, false, true, true] h rfl
  | 1, _ => exact st_subl [false, true, false, true, true, false, false, true, false, true, false] h rfl
  | 2, _ => exact st_subl [false, true, false, true, true, false, false, true, false, false, true] h rfl
  | n + 3, hj => exact absurd hj (by show ¬ n + 3 < 3; omega)
theorem st_flat_23 (h : (Jvm.Cond.and given_1 narrow_1).before args s = true) : zLF args s 23 := by
  refine ⟨st_subl [false, true, false, true, true, false, false, true, false, false, false] h rfl, st_subl [false, true, false, true, true, false, false, false, true, true, true] h rfl, st_subl [false, true, false, true, true, false, false, false, true, true, false] h rfl, st_subl [false, true, false, true, true, false, false, false, true, false, true] h rfl, fun j hj => ?_⟩
  match j, hj with
  | 0, _ => exact st_subl [false, true, false, true, true, false, false, false, true, false, false] h rfl
  | 1, _ => exact st_subl [false, true, false, true, true, false, false, false, false, true, true] h rfl
  | 2, _ => exact st_subl [false, true, false, true, true, false, false, false, false, true, false] h rfl
  | 3, _ => exact st_subl [false, true, false, true, true, false, false, false, false, false, true] h rfl
  | 4, _ => exact st_subl [false, true, false, true, true, false, false, false, false, false, false] h rfl
  | 5, _ => exact st_subl [false, true, false, true, false, true, true, true, true, true, true] h rfl
  | 6, _ => exact st_subl [false, true, false, true, false, true, true, true, true, true, false] h rfl
  | n + 7, hj => exact absurd hj (by show ¬ n + 7 < 7; omega)
theorem st_flat_24 (h : (Jvm.Cond.and given_1 narrow_1).before args s = true) : zLF args s 24 := by
  refine ⟨st_subl [false, true, false, true, false, true, true, true, true, false, true] h rfl, st_subl [false, true, false, true, false, true, true, true, true, false, false] h rfl, st_subl [false, true, false, true, false, true, true, true, false, true, true] h rfl, st_subl [false, true, false, true, false, true, true, true, false, true, false] h rfl, fun j hj => ?_⟩
  match j, hj with
  | 0, _ => exact st_subl [false, true, false, true, false, true, true, true, false, false, true] h rfl
  | 1, _ => exact st_subl [false, true, false, true, false, true, true, true, false, false, false] h rfl
  | 2, _ => exact st_subl [false, true, false, true, false, true, true, false, true, true, true] h rfl
  | n + 3, hj => exact absurd hj (by show ¬ n + 3 < 3; omega)
theorem st_flat_25 (h : (Jvm.Cond.and given_1 narrow_1).before args s = true) : zLF args s 25 := by
  refine ⟨st_subl [false, true, false, true, false, true, true, false, true, true, false] h rfl, st_subl [false, true, false, true, false, true, true, false, true, false, true] h rfl, st_subl [false, true, false, true, false, true, true, false, true, false, false] h rfl, st_subl [false, true, false, true, false, true, true, false, false, true, true] h rfl, fun j hj => ?_⟩
  match j, hj with
  | 0, _ => exact st_subl [false, true, false, true, false, true, true, false, false, true, false] h rfl
  | 1, _ => exact st_subl [false, true, false, true, false, true, true, false, false, false, true] h rfl
  | 2, _ => exact st_subl [false, true, false, true, false, true, true, false, false, false, false] h rfl
  | 3, _ => exact st_subl [false, true, false, true, false, true, false, true, true, true, true] h rfl
  | n + 4, hj => exact absurd hj (by show ¬ n + 4 < 4; omega)
theorem st_flat_26 (h : (Jvm.Cond.and given_1 narrow_1).before args s = true) : zLF args s 26 := by
  refine ⟨st_subl [false, true, false, false, true, true, false, true, false, false, false] h rfl, st_subl [false, true, false, false, true, true, false, false, true, true, true] h rfl, st_subl [false, true, false, false, true, true, false, false, true, true, false] h rfl, st_subl [false, true, false, false, true, true, false, false, true, false, true] h rfl, fun j hj => ?_⟩
  match j, hj with
  | 0, _ => exact st_subl [false, true, false, false, true, true, false, false, true, false, false] h rfl
  | 1, _ => exact st_subl [false, true, false, false, true, true, false, false, false, true, true] h rfl
  | 2, _ => exact st_subl [false, true, false, false, true, true, false, false, false, true, false] h rfl
  | 3, _ => exact st_subl [false, true, false, false, true, true, false, false, false, false, true] h rfl
  | 4, _ => exact st_subl [false, true, false, false, true, true, false, false, false, false, false] h rfl
  | n + 5, hj => exact absurd hj (by show ¬ n + 5 < 5; omega)
theorem st_flat_27 (h : (Jvm.Cond.and given_1 narrow_1).before args s = true) : zLF args s 27 := by
  refine ⟨st_subl [false, true, false, false, true, false, true, true, true, true, true] h rfl, st_subl [false, true, false, false, true, false, true, true, true, true, false] h rfl, st_subl [false, true, false, false, true, false, true, true, true, false, true] h rfl, st_subl [false, true, false, false, true, false, true, true, true, false, false] h rfl, fun j hj => ?_⟩
  match j, hj with
  | 0, _ => exact st_subl [false, true, false, false, true, false, true, true, false, true, true] h rfl
  | 1, _ => exact st_subl [false, true, false, false, true, false, true, true, false, true, false] h rfl
  | 2, _ => exact st_subl [false, true, false, false, true, false, true, true, false, false, true] h rfl
  | n + 3, hj => exact absurd hj (by show ¬ n + 3 < 3; omega)
theorem st_flat_28 (h : (Jvm.Cond.and given_1 narrow_1).before args s = true) : zLF args s 28 := by
  refine ⟨st_subl [false, true, false, false, true, false, true, true, false, false, false] h rfl, st_subl [false, true, false, false, true, false, true, false, true, true, true] h rfl, st_subl [false, true, false, false, true, false, true, false, true, true, false] h rfl, st_subl [false, true, false, false, true, false, true, false, true, false, true] h rfl, fun j hj => ?_⟩
  match j, hj with
  | 0, _ => exact st_subl [false, true, false, false, true, false, true, false, true, false, false] h rfl
  | 1, _ => exact st_subl [false, true, false, false, true, false, true, false, false, true, true] h rfl
  | n + 2, hj => exact absurd hj (by show ¬ n + 2 < 2; omega)
theorem st_flat_29 (h : (Jvm.Cond.and given_1 narrow_1).before args s = true) : zLF args s 29 := by
  refine ⟨st_subl [false, true, false, false, true, false, true, false, false, true, false] h rfl, st_subl [false, true, false, false, true, false, true, false, false, false, true] h rfl, st_subl [false, true, false, false, true, false, true, false, false, false, false] h rfl, st_subl [false, true, false, false, true, false, false, true, true, true, true] h rfl, fun j hj => ?_⟩
  match j, hj with
  | 0, _ => exact st_subl [false, true, false, false, true, false, false, true, true, true, false] h rfl
  | 1, _ => exact st_subl [false, true, false, false, true, false, false, true, true, false, true] h rfl
  | 2, _ => exact st_subl [false, true, false, false, true, false, false, true, true, false, false] h rfl
  | 3, _ => exact st_subl [false, true, false, false, true, false, false, true, false, true, true] h rfl
  | 4, _ => exact st_subl [false, true, false, false, true, false, false, true, false, true, false] h rfl
  | 5, _ => exact st_subl [false, true, false, false, true, false, false, true, false, false, true] h rfl
  | 6, _ => exact st_subl [false, true, false, false, true, false, false, true, false, false, false] h rfl
  | 7, _ => exact st_subl [false, true, false, false, true, false, false, false, true, true, true] h rfl
  | 8, _ => exact st_subl [false, true, false, false, true, false, false, false, true, true, false] h rfl
  | 9, _ => exact st_subl [false, true, false, false, true, false, false, false, true, false, true] h rfl
  | 10, _ => exact st_subl [false, true, false, false, true, false, false, false, true, false, false] h rfl
  | 11, _ => exact st_subl [false, true, false, false, true, false, false, false, false, true, true] h rfl
  | 12, _ => exact st_subl [false, true, false, false, true, false, false, false, false, true, false] h rfl
  | 13, _ => exact st_subl [false, true, false, false, true, false, false, false, false, false, true] h rfl
  | 14, _ => exact st_subl [false, true, false, false, true, false, false, false, false, false, false] h rfl
  | n + 15, hj => exact absurd hj (by show ¬ n + 15 < 15; omega)
theorem st_flat_30 (h : (Jvm.Cond.and given_1 narrow_1).before args s = true) : zLF args s 30 := by
  refine ⟨st_subl [false, true, false, false, false, true, true, true, true, true, true] h rfl, st_subl [false, true, false, false, false, true, true, true, true, true, false] h rfl, st_subl [false, true, false, false, false, true, true, true, true, false, true] h rfl, st_subl [false, true, false, false, false, true, true, true, true, false, false] h rfl, fun j hj => ?_⟩
  match j, hj with
  | 0, _ => exact st_subl [false, true, false, false, false, true, true, true, false, true, true] h rfl
  | 1, _ => exact st_subl [false, true, false, false, false, true, true, true, false, true, false] h rfl
  | 2, _ => exact st_subl [false, true, false, false, false, true, true, true, false, false, true] h rfl
  | 3, _ => exact st_subl [false, true, false, false, false, true, true, true, false, false, false] h rfl
  | 4, _ => exact st_subl [false, true, false, false, false, true, true, false, true, true, true] h rfl
  | 5, _ => exact st_subl [false, true, false, false, false, true, true, false, true, true, false] h rfl
  | 6, _ => exact st_subl [false, true, false, false, false, true, true, false, true, false, true] h rfl
  | 7, _ => exact st_subl [false, true, false, false, false, true, true, false, true, false, false] h rfl
  | 8, _ => exact st_subl [false, true, false, false, false, true, true, false, false, true, true] h rfl
  | 9, _ => exact st_subl [false, true, false, false, false, true, true, false, false, true, false] h rfl
  | 10, _ => exact st_subl [false, true, false, false, false, true, true, false, false, false, true] h rfl
  | 11, _ => exact st_subl [false, true, false, false, false, true, true, false, false, false, false] h rfl
  | 12, _ => exact st_subl [false, true, false, false, false, true, false, true, true, true, true] h rfl
  | 13, _ => exact st_subl [false, true, false, false, false, true, false, true, true, true, false] h rfl
  | 14, _ => exact st_subl [false, true, false, false, false, true, false, true, true, false, true] h rfl
  | 15, _ => exact st_subl [false, true, false, false, false, true, false, true, true, false, false] h rfl
  | 16, _ => exact st_subl [false, true, false, false, false, true, false, true, false, true, true] h rfl
  | 17, _ => exact st_subl [false, true, false, false, false, true, false, true, false, true, false] h rfl
  | 18, _ => exact st_subl [false, true, false, false, false, true, false, true, false, false, true] h rfl
  | 19, _ => exact st_subl [false, true, false, false, false, true, false, true, false, false, false] h rfl
  | 20, _ => exact st_subl [false, true, false, false, false, true, false, false, true, true, true] h rfl
  | 21, _ => exact st_subl [false, true, false, false, false, true, false, false, true, true, false] h rfl
  | 22, _ => exact st_subl [false, true, false, false, false, true, false, false, true, false, true] h rfl
  | 23, _ => exact st_subl [false, true, false, false, false, true, false, false, true, false, false] h rfl
  | 24, _ => exact st_subl [false, true, false, false, false, true, false, false, false, true, true] h rfl
  | 25, _ => exact st_subl [false, true, false, false, false, true, false, false, false, true, false] h rfl
  | 26, _ => exact st_subl [false, true, false, false, false, true, false, false, false, false, true] h rfl
  | 27, _ => exact st_subl [false, true, false, false, false, true, false, false, false, false, false] h rfl
  | 28, _ => exact st_subl [false, true, false, false, false, false, true, true, true, true, true] h rfl
  | 29, _ => exact st_subl [false, true, false, false, false, false, true, true, true, true, false] h rfl
  | 30, _ => exact st_subl [false, true, false, false, false, false, true, true, true, false, true] h rfl
  | 31, _ => exact st_subl [false, true, false, false, false, false, true, true, true, false, false] h rfl
  | 32, _ => exact st_subl [false, true, false, false, false, false, true, true, false, true, true] h rfl
  | 33, _ => exact st_subl [false, true, false, false, false, false, true, true, false, true, false] h rfl
  | n + 34, hj => exact absurd hj (by show ¬ n + 34 < 34; omega)
theorem st_flat_31 (h : (Jvm.Cond.and given_1 narrow_1).before args s = true) : zLF args s 31 := by
  refine ⟨st_subl [false, true, false, false, false, false, true, true, false, false, true] h rfl, st_subl [false, true, false, false, false, false, true, true, false, false, false] h rfl, st_subl [false, true, false, false, false, false, true, false, true, true, true] h rfl, st_subl [false, true, false, false, false, false, true, false, true, true, false] h rfl, fun j hj => ?_⟩
  match j, hj with
  | 0, _ => exact st_subl [false, true, false, false, false, false, true, false, true, false, true] h rfl
  | 1, _ => exact st_subl [false, true, false, false, false, false, true, false, true, false, false] h rfl
  | 2, _ => exact st_subl [false, true, false, false, false, false, true, false, false, true, true] h rfl
  | 3, _ => exact st_subl [false, true, false, false, false, false, true, false, false, true, false] h rfl
  | 4, _ => exact st_subl [false, true, false, false, false, false, true, false, false, false, true] h rfl
  | 5, _ => exact st_subl [false, true, false, false, false, false, true, false, false, false, false] h rfl
  | 6, _ => exact st_subl [false, true, false, false, false, false, false, true, true, true, true] h rfl
  | 7, _ => exact st_subl [false, true, false, false, false, false, false, true, true, true, false] h rfl
  | 8, _ => exact st_subl [false, true, false, false, false, false, false, true, true, false, true] h rfl
  | 9, _ => exact st_subl [false, true, false, false, false, false, false, true, true, false, false] h rfl
  | 10, _ => exact st_subl [false, true, false, false, false, false, false, true, false, true, true] h rfl
  | 11, _ => exact st_subl [false, true, false, false, false, false, false, true, false, true, false] h rfl
  | 12, _ => exact st_subl [false, true, false, false, false, false, false, true, false, false, true] h rfl
  | n + 13, hj => exact absurd hj (by show ¬ n + 13 < 13; omega)
theorem st_flat_32 (h : (Jvm.Cond.and given_1 narrow_1).before args s = true) : zLF args s 32 := by
  refine ⟨st_subl [false, true, false, false, false, false, false, true, false, false, false] h rfl, st_subl [false, true, false, false, false, false, false, false, true, true, true] h rfl, st_subl [false, true, false, false, false, false, false, false, true, true, false] h rfl, st_subl [false, true, false, false, false, false, false, false, true, false, true] h rfl, fun j hj => ?_⟩
  match j, hj with
  | 0, _ => exact st_subl [false, true, false, false, false, false, false, false, true, false, false] h rfl
  | 1, _ => exact st_subl [false, true, false, false, false, false, false, false, false, true, true] h rfl
  | 2, _ => exact st_subl [false, true, false, false, false, false, false, false, false, true, false] h rfl
  | 3, _ => exact st_subl [false, true, false, false, false, false, false, false, false, false, true] h rfl
  | 4, _ => exact st_subl [false, true, false, false, false, false, false, false, false, false, false, true] h rfl
  | 5, _ => exact st_subl [false, true, false, false, false, false, false, false, false, false, false, false] h rfl
  | 6, _ => exact st_subl [false, false, true, true, true, true, true, true, true, true, true] h rfl
  | 7, _ => exact st_subl [false, false, true, true, true, true, true, true, true, true, false] h rfl
  | 8, _ => exact st_subl [false, false, true, true, true, true, true, true, true, false, true] h rfl
  | 9, _ => exact st_subl [false, false, true, true, true, true, true, true, true, false, false] h rfl
  | 10, _ => exact st_subl [false, false, true, true, true, true, true, true, false, true, true] h rfl
  | 11, _ => exact st_subl [false, false, true, true, true, true, true, true, false, true, false] h rfl
  | 12, _ => exact st_subl [false, false, true, true, true, true, true, true, false, false, true] h rfl
  | 13, _ => exact st_subl [false, false, true, true, true, true, true, true, false, false, false] h rfl
  | 14, _ => exact st_subl [false, false, true, true, true, true, true, false, true, true, true] h rfl
  | 15, _ => exact st_subl [false, false, true, true, true, true, true, false, true, true, false] h rfl
  | 16, _ => exact st_subl [false, false, true, true, true, true, true, false, true, false, true] h rfl
  | 17, _ => exact st_subl [false, false, true, true, true, true, true, false, true, false, false] h rfl
  | 18, _ => exact st_subl [false, false, true, true, true, true, true, false, false, true, true] h rfl
  | 19, _ => exact st_subl [false, false, true, true, true, true, true, false, false, true, false] h rfl
  | 20, _ => exact st_subl [false, false, true, true, true, true, true, false, false, false, true] h rfl
  | 21, _ => exact st_subl [false, false, true, true, true, true, true, false, false, false, false] h rfl
  | 22, _ => exact st_subl [false, false, true, true, true, true, false, true, true, true, true] h rfl
  | 23, _ => exact st_subl [false, false, true, true, true, true, false, true, true, true, false] h rfl
  | 24, _ => exact st_subl [false, false, true, true, true, true, false, true, true, false, true] h rfl
  | 25, _ => exact st_subl [false, false, true, true, true, true, false, true, true, false, false] h rfl
  | 26, _ => exact st_subl [false, false, true, true, true, true, false, true, false, true, true] h rfl
  | 27, _ => exact st_subl [false, false, true, true, true, true, false, true, false, true, false] h rfl
  | 28, _ => exact st_subl [false, false, true, true, true, true, false, true, false, false, true] h rfl
  | 29, _ => exact st_subl [false, false, true, true, true, true, false, true, false, false, false] h rfl
  | 30, _ => exact st_subl [false, false, true, true, true, true, false, false, true, true, true] h rfl
  | 31, _ => exact st_subl [false, false, true, true, true, true, false, false, true, true, false] h rfl
  | n + 32, hj => exact absurd hj (by show ¬ n + 32 < 32; omega)
theorem st_flat_33 (h : (Jvm.Cond.and given_1 narrow_1).before args s = true) : zLF args s 33 := by
  refine ⟨st_subl [false, false, true, true, true, true, false, false, true, false, true] h rfl, st_subl [false, false, true, true, true, true, false, false, true, false, false] h rfl, st_subl [false, false, true, true, true, true, false, false, false, true, true] h rfl, st_subl [false, false, true, true, true, true, false, false, false, true, false] h rfl, fun j hj => ?_⟩
  match j, hj with
  | 0, _ => exact st_subl [false, false, true, true, true, true, false, false, false, false, true] h rfl
  | 1, _ => exact st_subl [false, false, true, true, true, true, false, false, false, false, false] h rfl
  | 2, _ => exact st_subl [false, false, true, true, true, false, true, true, true, true, true] h rfl
  | 3, _ => exact st_subl [false, false, true, true, true, false, true, true, true, true, false] h rfl
  | 4, _ => exact st_subl [false, false, true, true, true, false, true, true, true, false, true] h rfl
  | 5, _ => exact st_subl [false, false, true, true, true, false, true, true, true, false, false] h rfl
  | 6, _ => exact st_subl [false, false, true, true, true, false, true, true, false, true, true] h rfl
  | 7, _ => exact st_subl [false, false, true, true, true, false, true, true, false, true, false] h rfl
  | 8, _ => exact st_subl [false, false, true, true, true, false, true, true, false, false, true] h rfl
  | 9, _ => exact st_subl [false, false, true, true, true, false, true, true, false, false, false] h rfl
  | 10, _ => exact st_subl [false, false, true, true, true, false, true, false, true, true, true] h rfl
  | 11, _ => exact st_subl [false, false, true, true, true, false, true, false, true, true, false] h rfl
  | 12, _ => exact st_subl [false, false, true, true, true, false, true, false, true, false, true] h rfl
  | 13, _ => exact st_subl [false, false, true, true, true, false, true, false, true, false, false] h rfl
  | 14, _ => exact st_subl [false, false, true, true, true, false, true, false, false, true, true] h rfl
  | 15, _ => exact st_subl [false, false, true, true, true, false, true, false, false, true, false] h rfl
  | n + 16, hj => exact absurd hj (by show ¬ n + 16 < 16; omega)
theorem st_flat_34 (h : (Jvm.Cond.and given_1 narrow_1).before args s = true) : zLF args s 34 := by
  refine ⟨st_subl [false, false, true, true, true, false, true, false, false, false, true] h rfl, st_subl [false, false, true, true, true, false, true, false, false, false, false] h rfl, st_subl [false, false, true, true, true, false, false, true, true, true, true] h rfl, st_subl [false, false, true, true, true, false, false, true, true, true, false] h rfl, fun j hj => ?_⟩
  match j, hj with
  | 0, _ => exact st_subl [false, false, true, true, true, false, false, true, true, false, true] h rfl
  | 1, _ => exact st_subl [false, false, true, true, true, false, false, true, true, false, false] h rfl
  | 2, _ => exact st_subl [false, false, true, true, true, false, false, true, false, true, true] h rfl
  | 3, _ => exact st_subl [false, false, true, true, true, false, false, true, false, true, false] h rfl
  | 4, _ => exact st_subl [false, false, true, true, true, false, false, true, false, false, true] h rfl
  | 5, _ => exact st_subl [false, false, true, true, true, false, false, true, false, false, false] h rfl
  | 6, _ => exact st_subl [false, false, true, true, true, false, false, false, true, true, true] h rfl
  | 7, _ => exact st_subl [false, false, true, true, true, false, false, false, true, true, false] h rfl
  | 8, _ => exact st_subl [false, false, true, true, true, false, false, false, true, false, true] h rfl
  | 9, _ => exact st_subl [false, false, true, true, true, false, false, false, true, false, false] h rfl
  | 10, _ => exact st_subl [false, false, true, true, true, false, false, false, false, true, true] h rfl
  | 11, _ => exact st_subl [false, false, true, true, true, false, false, false, false, true, false] h rfl
  | 12, _ => exact st_subl [false, false, true, true, true, false, false, false, false, false, true] h rfl
  | n + 13, hj => exact absurd hj (by show ¬ n + 13 < 13; omega)
theorem st_flat_35 (h : (Jvm.Cond.and given_1 narrow_1).before args s = true) : zLF args s 35 := by
  refine ⟨st_subl [false, false, true, true, true, false, false, false, false, false, false] h rfl, st_subl [false, false, true, true, false, true, true, true, true, true, true] h rfl, st_subl [false, false, true, true, false, true, true, true, true, true, false] h rfl, st_subl [false, false, true, true, false, true, true, true, true, false, true] h rfl, fun j hj => ?_⟩
  match j, hj with
  | 0, _ => exact st_subl [false, false, true, true, false, true, true, true, true, false, false] h rfl
  | 1, _ => exact st_subl [false, false, true, true, false, true, true, true, false, true, true] h rfl
  | 2, _ => exact st_subl [false, false, true, true, false, true, true, true, false, true, false] h rfl
  | 3, _ => exact st_subl [false, false, true, true, false, true, true, true, false, false, true] h rfl
  | 4, _ => exact st_subl [false, false, true, true, false, true, true, true, false, false, false] h rfl
  | 5, _ => exact st_subl [false, false, true, true, false, true, true, false, true, true, true] h rfl
  | 6, _ => exact st_subl [false, false, true, true, false, true, true, false, true, true, false] h rfl
  | 7, _ => exact st_subl [false, false, true, true, false, true, true, false, true, false, true] h rfl
  | 8, _ => exact st_subl [false, false, true, true, false, true, true, false, true, false, false] h rfl
  | 9, _ => exact st_subl [false, false, true, true, false, true, true, false, false, true, true] h rfl
  | 10, _ => exact st_subl [false, false, true, true, false, true, true, false, false, true, false] h rfl
  | 11, _ => exact st_subl [false, false, true, true, false, true, true, false, false, false, true] h rfl
  | 12, _ => exact st_subl [false, false, true, true, false, true, true, false, false, false, false] h rfl
  | n + 13, hj => exact absurd hj (by show ¬ n + 13 < 13; omega)
theorem st_flat_36 (h : (Jvm.Cond.and given_1 narrow_1).before args s = true) : zLF args s 36 := by
  refine ⟨st_subl [false, false, true, true, false, true, false, true, true, true, true] h rfl, st_subl [false, false, true, true, false, true, false, true, true, true, false] h rfl, st_subl [false, false, true, true, false, true, false, true, true, false, true] h rfl, st_subl [false, false, true, true, false, true, false, true, true, false, false] h rfl, fun j hj => ?_⟩
  match j, hj with
  | 0, _ => exact st_subl [false, false, true, true, false, true, false, true, false, true, true] h rfl
  | 1, _ => exact st_subl [false, false, true, true, false, true, false, true, false, true, false] h rfl
  | 2, _ => exact st_subl [false, false, true, true, false, true, false, true, false, false, true] h rfl
  | 3, _ => exact st_subl [false, false, true, true, false, true, false, true, false, false, false] h rfl
  | 4, _ => exact st_subl [false, false, true, true, false, true, false, false, true, true, true] h rfl
  | 5, _ => exact st_subl [false, false, true, true, false, true, false, false, true, true, false] h rfl
  | 6, _ => exact st_subl [false, false, true, true, false, true, false, false, true, false, true] h rfl
  | 7, _ => exact st_subl [false, false, true, true, false, true, false, false, true, false, false] h rfl
  | 8, _ => exact st_subl [false, false, true, true, false, true, false, false, false, true, true] h rfl
  | 9, _ => exact st_subl [false, false, true, true, false, true, false, false, false, true, false] h rfl
  | 10, _ => exact st_subl [false, false, true, true, false, true, false, false, false, false, true] h rfl
  | 11, _ => exact st_subl [false, false, true, true, false, true, false, false, false, false, false] h rfl
  | 12, _ => exact st_subl [false, false, true, true, false, false, true, true, true, true, true] h rfl
  | 13, _ => exact st_subl [false, false, true, true, false, false, true, true, true, true, false] h rfl
  | 14, _ => exact st_subl [false, false, true, true, false, false, true, true, true, false, true] h rfl
  | 15, _ => exact st_subl [false, false, true, true, false, false, true, true, true, false, false] h rfl
  | 16, _ => exact st_subl [false, false, true, true, false, false, true, true, false, true, true] h rfl
  | 17, _ => exact st_subl [false, false, true, true, false, false, true, true, false, true, false] h rfl
  | 18, _ => exact st_subl [false, false, true, true, false, false, true, true, false, false, true] h rfl
  | 19, _ => exact st_subl [false, false, true, true, false, false, true, true, false, false, false] h rfl
  | 20, _ => exact st_subl [false, false, true, true, false, false, true, false, true, true, true] h rfl
  | 21, _ => exact st_subl [false, false, true, true, false, false, true, false, true, true, false] h rfl
  | 22, _ => exact st_subl [false, false, true, true, false, false, true, false, true, false, true] h rfl
  | 23, _ => exact st_subl [false, false, true, true, false, false, true, false, true, false, false] h rfl
  | 24, _ => exact st_subl [false, false, true, true, false, false, true, false, false, true, true] h rfl
  | n + 25, hj => exact absurd hj (by show ¬ n + 25 < 25; omega)
theorem st_flat_37 (h : (Jvm.Cond.and given_1 narrow_1).before args s = true) : zLF args s 37 := by
  refine ⟨st_subl [false, false, true, true, false, false, true, false, false, true, false] h rfl, st_subl [false, false, true, true, false, false, true, false, false, false, true] h rfl, st_subl [false, false, true, true, false, false, true, false, false, false, false] h rfl, st_subl [false, false, true, true, false, false, false, true, true, true, true] h rfl, fun j hj => ?_⟩
  match j, hj with
  | 0, _ => exact st_subl [false, false, true, true, false, false, false, true, true, true, false] h rfl
  | 1, _ => exact st_subl [false, false, true, true, false, false, false, true, true, false, true] h rfl
  | 2, _ => exact st_subl [false, false, true, true, false, false, false, true, true, false, false] h rfl
  | 3, _ => exact st_subl [false, false, true, true, false, false, false, true, false, true, true] h rfl
  | 4, _ => exact st_subl [false, false, true, true, false, false, false, true, false, true, false] h rfl
  | 5, _ => exact st_subl [false, false, true, true, false, false, false, true, false, false, true] h rfl
  | 6, _ => exact st_subl [false, false, true, true, false, false, false, true, false, false, false] h rfl
  | 7, _ => exact st_subl [false, false, true, true, false, false, false, false, true, true, true] h rfl
  | 8, _ => exact st_subl [false, false, true, true, false, false, false, false, true, true, false] h rfl
  | 9, _ => exact st_subl [false, false, true, true, false, false, false, false, true, false, true] h rfl
  | 10, _ => exact st_subl [false, false, true, true, false, false, false, false, true, false, false] h rfl
  | 11, _ => exact st_subl [false, false, true, true, false, false, false, false, false, true, true] h rfl
  | n + 12, hj => exact absurd hj (by show ¬ n + 12 < 12; omega)
theorem st_flat_38 (h : (Jvm.Cond.and given_1 narrow_1).before args s = true) : zLF args s 38 := by
  refine ⟨st_subl [false, false, true, true, false, false, false, false, false, true, false] h rfl, st_subl [false, false, true, true, false, false, false, false, false, false, true] h rfl, st_subl [false, false, true, true, false, false, false, false, false, false, false] h rfl, st_subl [false, false, true, false, true, true, true, true, true, true, true] h rfl, fun j hj => ?_⟩
  match j, hj with
  | 0, _ => exact st_subl [false, false, true, false, true, true, true, true, true, true, false] h rfl
  | 1, _ => exact st_subl [false, false, true, false, true, true, true, true, true, false, true] h rfl
  | 2, _ => exact st_subl [false, false, true, false, true, true, true, true, true, false, false] h rfl
  | 3, _ => exact st_subl [false, false, true, false, true, true, true, true, false, true, true] h rfl
  | 4, _ => exact st_subl [false, false, true, false, true, true, true, true, false, true, false] h rfl
  | 5, _ => exact st_subl [false, false, true, false, true, true, true, true, false, false, true] h rfl
  | 6, _ => exact st_subl [false, false, true, false, true, true, true, true, false, false, false] h rfl
  | 7, _ => exact st_subl [false, false, true, false, true, true, true, false, true, true, true] h rfl
  | 8, _ => exact st_subl [false, false, true, false, true, true, true, false, true, true, false] h rfl
  | 9, _ => exact st_subl [false, false, true, false, true, true, true, false, true, false, true] h rfl
  | 10, _ => exact st_subl [false, false, true, false, true, true, true, false, true, false, false] h rfl
  | 11, _ => exact st_subl [false, false, true, false, true, true, true, false, false, true, true] h rfl
  | 12, _ => exact st_subl [false, false, true, false, true, true, true, false, false, true, false] h rfl
  | n + 13, hj => exact absurd hj (by show ¬ n + 13 < 13; omega)
theorem st_flat_39 (h : (Jvm.Cond.and given_1 narrow_1).before args s = true) : zLF args s 39 := by
  refine ⟨st_subl [false, false, true, false, true, true, true, false, false, false, true] h rfl, st_subl [false, false, true, false, true, true, true, false, false, false, false] h rfl, st_subl [false, false, true, false, true, true, false, true, true, true, true] h rfl, st_subl [false, false, true, false, true, true, false, true, true, true, false] h rfl, fun j hj => ?_⟩
  match j, hj with
  | 0, _ => exact st_subl [false, false, true, false, true, true, false, true, true, false, true] h rfl
  | 1, _ => exact st_subl [false, false, true, false, true, true, false, true, true, false, false] h rfl
  | 2, _ => exact st_subl [false, false, true, false, true, true, false, true, false, true, true] h rfl
  | 3, _ => exact st_subl [false, false, true, false, true, true, false, true, false, true, false] h rfl
  | 4, _ => exact st_subl [false, false, true, false, true, true, false, true, false, false, true] h rfl
  | 5, _ => exact st_subl [false, false, true, false, true, true, false, true, false, false, false] h rfl
  | 6, _ => exact st_subl [false, false, true, false, true, true, false, false, true, true, true] h rfl
  | 7, _ => exact st_subl [false, false, true, false, true, true, false, false, true, true, false] h rfl
  | 8, _ => exact st_subl [false, false, true, false, true, true, false, false, true, false, true] h rfl
  | 9, _ => exact st_subl [false, false, true, false, true, true, false, false, true, false, false] h rfl
  | 10, _ => exact st_subl [false, false, true, false, true, true, false, false, false, true, true] h rfl
  | 11, _ => exact st_subl [false, false, true, false, true, true, false, false, false, true, false] h rfl
  | n + 12, hj => exact absurd hj (by show ¬ n + 12 < 12; omega)
theorem st_flat_40 (h : (Jvm.Cond.and given_1 narrow_1).before args s = true) : zLF args s 40 := by
  refine ⟨st_subl [false, false, true, false, true, true, false, false, false, false, true] h rfl, st_subl [false, false, true, false, true, true, false, false, false, false, false] h rfl, st_subl [false, false, true, false, true, false, true, true, true, true, true] h rfl, st_subl [false, false, true, false, true, false, true, true, true, true, false] h rfl, fun j hj => ?_⟩
  match j, hj with
  | 0, _ => exact st_subl [false, false, true, false, true, false, true, true, true, false, true] h rfl
  | 1, _ => exact st_subl [false, false, true, false, true, false, true, true, true, false, false] h rfl
  | 2, _ => exact st_subl [false, false, true, false, true, false, true, true, false, true, true] h rfl
  | 3, _ => exact st_subl [false, false, true, false, true, false, true, true, false, true, false] h rfl
  | 4, _ => exact st_subl [false, false, true, false, true, false, true, true, false, false, true] h rfl
  | 5, _ => exact st_subl [false, false, true, false, true, false, true, true, false, false, false] h rfl
  | 6, _ => exact st_subl [false, false, true, false, true, false, true, false, true, true, true] h rfl
  | 7, _ => exact st_subl [false, false, true, false, true, false, true, false, true, true, false] h rfl
  | 8, _ => exact st_subl [false, false, true, false, true, false, true, false, true, false, true] h rfl
  | 9, _ => exact st_subl [false, false, true, false, true, false, true, false, true, false, false] h rfl
  | 10, _ => exact st_subl [false, false, true, false, true, false, true, false, false, true, true] h rfl
  | 11, _ => exact st_subl [false, false, true, false, true, false, true, false, false, true, false] h rfl
  | 12, _ => exact st_subl [false, false, true, false, true, false, true, false, false, false, true] h rfl
  | 13, _ => exact st_subl [false, false, true, false, true, false, true, false, false, false, false] h rfl
  | 14, _ => exact st_subl [false, false, true, false, true, false, false, true, true, true, true] h rfl
  | 15, _ => exact st_subl [false, false, true, false, true, false, false, true, true, true, false] h rfl
  | 16, _ => exact st_subl [false, false, true, false, true, false, false, true, true, false, true] h rfl
  | 17, _ => exact st_subl [false, false, true, false, true, false, false, true, true, false, false] h rfl
  | 18, _ => exact st_subl [false, false, true, false, true, false, false, true, false, true, true] h rfl
  | 19, _ => exact st_subl [false, false, true, false, true, false, false, true, false, true, false] h rfl
  | 20, _ => exact st_subl [false, false, true, false, true, false, false, true, false, false, true] h rfl
  | 21, _ => exact st_subl [false, false, true, false, true, false, false, true, false, false, false] h rfl
  | 22, _ => exact st_subl [false, false, true, false, true, false, false, false, true, true, true] h rfl
  | 23, _ => exact st_subl [false, false, true, false, true, false, false, false, true, true, false] h rfl
  | 24, _ => exact st_subl [false, false, true, false, true, false, false, false, true, false, true] h rfl
  | 25, _ => exact st_subl [false, false, true, false, true, false, false, false, true, false, false] h rfl
  | 26, _ => exact st_subl [false, false, true, false, true, false, false, false, false, true, true] h rfl
  | 27, _ => exact st_subl [false, false, true, false, true, false, false, false, false, true, false] h rfl
  | 28, _ => exact st_subl [false, false, true, false, true, false, false, false, false, false, true] h rfl
  | 29, _ => exact st_subl [false, false, true, false, true, false, false, false, false, false, false] h rfl
  | 30, _ => exact st_subl [false, false, true, false, false, true, true, true, true, true, true] h rfl
  | 31, _ => exact st_subl [false, false, true, false, false, true, true, true, true, true, false] h rfl
  | 32, _ => exact st_subl [false, false, true, false, false, true, true, true, true, false, true] h rfl
  | 33, _ => exact st_subl [false, false, true, false, false, true, true, true, true, false, false] h rfl
  | n + 34, hj => exact absurd hj (by show ¬ n + 34 < 34; omega)
theorem st_flat_41 (h : (Jvm.Cond.and given_1 narrow_1).before args s = true) : zLF args s 41 := by
  refine ⟨st_subl [false, false, true, false, false, true, true, true, false, true, true] h rfl, st_subl [false, false, true, false, false, true, true, true, false, true, false] h rfl, st_subl [false, false, true, false, false, true, true, true, false, false, true] h rfl, st_subl [false, false, true, false, false, true, true, true, false, false, false] h rfl, fun j hj => ?_⟩
  match j, hj with
  | 0, _ => exact st_subl [false, false, true, false, false, true, true, false, true, true, true] h rfl
  | 1, _ => exact st_subl [false, false, true, false, false, true, true, false, true, true, false] h rfl
  | 2, _ => exact st_subl [false, false, true, false, false, true, true, false, true, false, true] h rfl
  | 3, _ => exact st_subl [false, false, true, false, false, true, true, false, true, false, false] h rfl
  | 4, _ => exact st_subl [false, false, true, false, false, true, true, false, false, true, true] h rfl
  | 5, _ => exact st_subl [false, false, true, false, false, true, true, false, false, true, false] h rfl
  | 6, _ => exact st_subl [false, false, true, false, false, true, true, false, false, false, true] h rfl
  | 7, _ => exact st_subl [false, false, true, false, false, true, true, false, false, false, false] h rfl
  | 8, _ => exact st_subl [false, false, true, false, false, true, false, true, true, true, true] h rfl
  | 9, _ => exact st_subl [false, false, true, false, false, true, false, true, true, true, false] h rfl
  | 10, _ => exact st_subl [false, false, true, false, false, true, false, true, true, false, true] h rfl
  | 11, _ => exact st_subl [false, false, true, false, false, true, false, true, true, false, false] h rfl
  | 12, _ => exact st_subl [false, false, true, false, false, true, false, true, false, true, true] h rfl
  | 13, _ => exact st_subl [false, false, true, false, false, true, false, true, false, true, false] h rfl
  | 14, _ => exact st_subl [false, false, true, false, false, true, false, true, false, false, true] h rfl
  | 15, _ => exact st_subl [false, false, true, false, false, true, false, true, false, false, false] h rfl
  | 16, _ => exact st_subl [false, false, true, false, false, true, false, false, true, true, true] h rfl
  | 17, _ => exact st_subl [false, false, true, false, false, true, false, false, true, true, false] h rfl
  | 18, _ => exact st_subl [false, false, true, false, false, true, false, false, true, false, true] h rfl
  | 19, _ => exact st_subl [false, false, true, false, false, true, false, false, true, false, false] h rfl
  | n + 20, hj => exact absurd hj (by show ¬ n + 20 < 20; omega)
theorem st_flat_42 (h : (Jvm.Cond.and given_1 narrow_1).before args s = true) : zLF args s 42 := by
  refine ⟨st_subl [false, false, true, false, false, true, false, false, false, true, true] h rfl, st_subl [false, false, true, false, false, true, false, false, false, true, false] h rfl, st_subl [false, false, true, false, false, true, false, false, false, false, true] h rfl, st_subl [false, false, true, false, false, true, false, false, false, false, false] h rfl, fun j hj => ?_⟩
  match j, hj with
  | 0, _ => exact st_subl [false, false, true, false, false, false, true, true, true, true, true] h rfl
  | 1, _ => exact st_subl [false, false, true, false, false, false, true, true, true, true, false] h rfl
  | 2, _ => exact st_subl [false, false, true, false, false, false, true, true, true, false, true] h rfl
  | 3, _ => exact st_subl [false, false, true, false, false, false, true, true, true, false, false] h rfl
  | 4, _ => exact st_subl [false, false, true, false, false, false, true, true, false, true, true] h rfl
  | 5, _ => exact st_subl [false, false, true, false, false, false, true, true, false, true, false] h rfl
  | 6, _ => exact st_subl [false, false, true, false, false, false, true, true, false, false, true] h rfl
  | 7, _ => exact st_subl [false, false, true, false, false, false, true, true, false, false, false] h rfl
  | 8, _ => exact st_subl [false, false, true, false, false, false, true, false, true, true, true] h rfl
  | 9, _ => exact st_subl [false, false, true, false, false, false, true, false, true, true, false] h rfl
  | 10, _ => exact st_subl [false, false, true, false, false, false, true, false, true, false, true] h rfl
  | 11, _ => exact st_subl [false, false, true, false, false, false, true, false, true, false, false] h rfl
  | 12, _ => exact st_subl [false, false, true, false, false, false, true, false, false, true, true] h rfl
  | 13, _ => exact st_subl [false, false, true, false, false, false, true, false, false, true, false] h rfl
  | 14, _ => exact st_subl [false, false, true, false, false, false, true, false, false, false, true] h rfl
  | 15, _ => exact st_subl [false, false, true, false, false, false, true, false, false, false, false] h rfl
  | 16, _ => exact st_subl [false, false, true, false, false, false, false, true, true, true, true] h rfl
  | 17, _ => exact st_subl [false, false, true, false, false, false, false, true, true, true, false] h rfl
  | 18, _ => exact st_subl [false, false, true, false, false, false, false, true, true, false, true] h rfl
  | 19, _ => exact st_subl [false, false, true, false, false, false, false, true, true, false, false] h rfl
  | 20, _ => exact st_subl [false, false, true, false, false, false, false, true, false, true, true] h rfl
  | 21, _ => exact st_subl [false, false, true, false, false, false, false, true, false, true, false] h rfl
  | 22, _ => exact st_subl [false, false, true, false, false, false, false, true, false, false, true] h rfl
  | 23, _ => exact st_subl [false, false, true, false, false, false, false, true, false, false, false] h rfl
  | 24, _ => exact st_subl [false, false, true, false, false, false, false, false, true, true, true] h rfl
  | 25, _ => exact st_subl [false, false, true, false, false, false, false, false, true, true, false] h rfl
  | 26, _ => exact st_subl [false, false, true, false, false, false, false, false, true, false, true] h rfl
  | 27, _ => exact st_subl [false, false, true, false, false, false, false, false, true, false, false] h rfl
  | 28, _ => exact st_subl [false, false, true, false, false, false, false, false, false, true, true] h rfl
  | 29, _ => exact st_subl [false, false, true, false, false, false, false, false, false, true, false] h rfl
  | n + 30, hj => exact absurd hj (by show ¬ n + 30 < 30; omega)
theorem st_flat (h : (Jvm.Cond.and given_1 narrow_1).before args s = true) (w : Nat) (hw : w < 43) : zLF args s w := by
  match w, hw with
  | 0, _ => exact st_flat_0 h
  | 1, _ => exact st_flat_1 h
  | 2, _ => exact st_flat_2 h
  | 3, _ => exact st_flat_3 h
  | 4, _ => exact st_flat_4 h
  | 5, _ => exact st_flat_5 h
  | 6, _ => exact st_flat_6 h
  | 7, _ => exact st_flat_7 h
  | 8, _ => exact st_flat_8 h
  | 9, _ => exact st_flat_9 h
  | 10, _ => exact st_flat_10 h
  | 11, _ => exact st_flat_11 h
  | 12, _ => exact st_flat_12 h
  | 13, _ => exact st_flat_13 h
  | 14, _ => exact st_flat_14 h
  | 15, _ => exact st_flat_15 h
  | 16, _ => exact st_flat_16 h
  | 17, _ => exact st_flat_17 h
  | 18, _ => exact st_flat_18 h
  | 19, _ => exact st_flat_19 h
  | 20, _ => exact st_flat_20 h
  | 21, _ => exact st_flat_21 h
  | 22, _ => exact st_flat_22 h
  | 23, _ => exact st_flat_23 h
  | 24, _ => exact st_flat_24 h
  | 25, _ => exact st_flat_25 h
  | 26, _ => exact st_flat_26 h
  | 27, _ => exact st_flat_27 h
  | 28, _ => exact st_flat_28 h
  | 29, _ => exact st_flat_29 h
  | 30, _ => exact st_flat_30 h
  | 31, _ => exact st_flat_31 h
  | 32, _ => exact st_flat_32 h
  | 33, _ => exact st_flat_33 h
  | 34, _ => exact st_flat_34 h
  | 35, _ => exact st_flat_35 h
  | 36, _ => exact st_flat_36 h
  | 37, _ => exact st_flat_37 h
  | 38, _ => exact st_flat_38 h
  | 39, _ => exact st_flat_39 h
  | 40, _ => exact st_flat_40 h
  | 41, _ => exact st_flat_41 h
  | 42, _ => exact st_flat_42 h
  | n + 43, h => omega
end STF
theorem st_diff : ∀ i, i < 43 → ∀ j, j < 43 → zLitL.getD i 0 = zLitL.getD j 0 → (∀ k, k < zLitL.getD i 0 → (zLitB.getD i []).getD k 0 = (zLitB.getD j []).getD k 0) → i = j := by decide +kernel
theorem st_len : ∀ i, i < 43 → zLitL.getD i 0 < 100 := by decide +kernel
/-- one literal -/
theorem st_lit {args : Array Value} {s : State} {A : Nat → Prop} (hgv : (Jvm.Cond.and given_1 narrow_1).before args s = true) (hA : ∀ a : Nat, a < s.heap.size → ¬ A a) {w : Nat} (hw : w < 43) :
    ∃ q : Nat × Nat, (va_O "java/lang/String" q.1 A s s.heap ∧ va_OF "java/lang/String" "coder" "B" (.int 0) q.1 A s s.heap ∧ va_OF "java/lang/String" "value" "[B" (.ref q.2) q.1 A s s.heap ∧ va_T .byte q.2 (zLitL.getD w 0) (fun j => .int ((zLitB.getD w []).getD j 0)) A s s.heap) ∧ (zTm w).eval args s none [] s = some (.ref q.1) := by
  obtain ⟨f1, f2, f3, f4, f5⟩ := st_flat hgv w hw
  have hlen := st_len w hw
  obtain ⟨adK, adV, h1, h2⟩ := vk_Sof (args := args) (s := s) (N := 1) (tm := fun _ => zTm w) (len := [zLitL.getD w 0]) (byt := [zLitB.getD w []]) (A := A)
    (fun i hi => by rw [show i = 0 by omega]; show zLitL.getD w 0 < 2 ^ 31; omega)
    (fun i hi => f1) (fun i hi => f2) (fun i hi => f3)
    (fun i hi => by rw [show i = 0 by omega]; exact f4)
    (fun i hi j hj => by
      have e0 : i = 0 := by omega
      subst e0
      have hj' : j < zLitL.getD w 0 := hj
      exact f5 j hj')
    (fun i j hi hj hne => absurd (show i = j by omega) hne) hA
  exact ⟨(adK 0, adV 0), h1.1 0 (by decide), h2 0 (by decide)⟩
theorem st_eqr {args : Array Value} {s : State} {a b : Term} {v : Nat} (h : (Cond.eq a b).before args s = true) (ha : a.eval args s none [] s = some (.ref v)) : b.eval args s none [] s = some (.ref v) := by
  cases hb : b.eval args s none [] s with
  | none => simp [Cond.before, Cond.holds, Cond.value, ha, hb] at h
  | some y =>
    simp only [Cond.before, Cond.holds, Cond.value, ha, hb] at h
    cases y <;> simp_all
theorem st_eqr' {args : Array Value} {s : State} {a b : Term} {v : Nat} (h : (Cond.eq b a).before args s = true) (ha : a.eval args s none [] s = some (.ref v)) : b.eval args s none [] s = some (.ref v) := by
  cases hb : b.eval args s none [] s with
  | none => simp [Cond.before, Cond.holds, Cond.value, ha, hb] at h
  | some y =>
    simp only [Cond.before, Cond.holds, Cond.value, ha, hb] at h
    cases y <;> simp_all
theorem st_inj {s : State} {A : Nat → Prop} {aK aV : Nat → Nat} (h : ∀ w, w < 43 → va_O "java/lang/String" (aK w) A s s.heap ∧ va_OF "java/lang/String" "coder" "B" (.int 0) (aK w) A s s.heap ∧ va_OF "java/lang/String" "value" "[B" (.ref (aV w)) (aK w) A s s.heap ∧ va_T .byte (aV w) (zLitL.getD w 0) (fun j => .int ((zLitB.getD w []).getD j 0)) A s s.heap) {i j : Nat} (hi : i < 43) (hj : j < 43) (e : aK i = aK j) : i = j := by
  obtain ⟨cf, k, q, f, cell, h1, h2, h3, h4, h5, h6⟩ := (h i hi).2.2.1
  obtain ⟨cf', k', q', f', cell', g1, g2, g3, g4, g5, g6⟩ := (h j hj).2.2.1
  have ef := h1.symm.trans g1
  simp only [Option.some.injEq, Prod.mk.injEq] at ef
  obtain ⟨-, -, -, rfl⟩ := ef
  rw [e] at h3
  cases Option.some.inj (h3.symm.trans g3)
  have ev := h5.symm.trans g5
  simp only [Option.some.injEq, Value.ref.injEq] at ev
  obtain ⟨c1, a1, -, -, a4, a5, a6, -⟩ := (h i hi).2.2.2
  obtain ⟨c2, b1, -, -, b4, b5, b6, -⟩ := (h j hj).2.2.2
  rw [ev] at a1
  cases Option.some.inj (a1.symm.trans b1)
  have el : zLitL.getD i 0 = zLitL.getD j 0 := by
    have l1 := st_len i hi
    have l2 := st_len j hj
    have e5 := a5.symm.trans b5
    have := congrArg Int32.toInt e5
    rw [Int32.toInt_ofNat_of_lt (by omega), Int32.toInt_ofNat_of_lt (by omega)] at this
    omega
  refine st_diff i hi j hj el (fun k hk => ?_)
  have := (a6 k hk).symm.trans (b6 k (by omega))
  simpa using this
theorem st_R {args : Array Value} {s : State} {aK : Nat → Nat} (hts : ∀ w ∈ lw_tbl, w.before args s = true) (hgv : (Jvm.Cond.and given_1 narrow_1).before args s = true) (h : ∀ w, w < 43 → (zTm w).eval args s none [] s = some (.ref (aK w))) : ∀ (i : Nat) (q : String × Nat × String × Nat), zStrs[i]? = some q → vk_R q.1 q.2.1 q.2.2.1 (aK q.2.2.2) s := by
  intro i q hq
  match i, hq with
  | 0, hq => cases hq; exact vk_R.of (hts _ (List.mem_append_right _ (List.mem_append_right _ (List.mem_append_right _ (List.mem_append_left _ (List.mem_of_getElem? (i := 168) rfl)))))) (h 0 (by decide))
  | 1, hq => cases hq; exact vk_R.of (hts _ (List.mem_append_right _ (List.mem_append_right _ (List.mem_append_right _ (List.mem_append_left _ (List.mem_of_getElem? (i := 225) rfl)))))) (h 1 (by decide))
  | 2, hq => cases hq; exact vk_R.of (hts _ (List.mem_append_right _ (List.mem_append_right _ (List.mem_append_right _ (List.mem_append_left _ (List.mem_of_getElem? (i := 239) rfl)))))) (h 2 (by decide))
  | 3, hq => cases hq; exact vk_R.of (hts _ (List.mem_append_right _ (List.mem_append_right _ (List.mem_append_right _ (List.mem_append_right _ (List.mem_append_left _ (List.mem_of_getElem? (i := 0) rfl))))))) (h 3 (by decide))
  | 4, hq => cases hq; exact vk_R.of (hts _ (List.mem_append_right _ (List.mem_append_right _ (List.mem_append_right _ (List.mem_append_right _ (List.mem_append_left _ (List.mem_of_getElem? (i := 1) rfl))))))) (h 4 (by decide))
  | 5, hq => cases hq; exact vk_R.of (hts _ (List.mem_append_right _ (List.mem_append_right _ (List.mem_append_right _ (List.mem_append_right _ (List.mem_append_left _ (List.mem_of_getElem? (i := 2) rfl))))))) (h 5 (by decide))
  | 6, hq => cases hq; exact vk_R.of (hts _ (List.mem_append_right _ (List.mem_append_right _ (List.mem_append_right _ (List.mem_append_right _ (List.mem_append_left _ (List.mem_of_getElem? (i := 6) rfl))))))) (h 6 (by decide))
  | 7, hq => cases hq; exact vk_R.of (hts _ (List.mem_append_right _ (List.mem_append_right _ (List.mem_append_right _ (List.mem_append_right _ (List.mem_append_left _ (List.mem_of_getElem? (i := 7) rfl))))))) (h 7 (by decide))
  | 8, hq => cases hq; exact vk_R.of (hts _ (List.mem_append_right _ (List.mem_append_right _ (List.mem_append_right _ (List.mem_append_right _ (List.mem_append_left _ (List.mem_of_getElem? (i := 13) rfl))))))) (h 8 (by decide))
  | 9, hq => cases hq; exact vk_R.of (hts _ (List.mem_append_right _ (List.mem_append_right _ (List.mem_append_right _ (List.mem_append_right _ (List.mem_append_left _ (List.mem_of_getElem? (i := 14) rfl))))))) (h 9 (by decide))
  | 10, hq => cases hq; exact vk_R.of (hts _ (List.mem_append_right _ (List.mem_append_right _ (List.mem_append_right _ (List.mem_append_right _ (List.mem_append_left _ (List.mem_of_getElem? (i := 18) rfl))))))) (h 10 (by decide))
  | 11, hq => cases hq; exact vk_R.of (hts _ (List.mem_append_right _ (List.mem_append_right _ (List.mem_append_right _ (List.mem_append_right _ (List.mem_append_left _ (List.mem_of_getElem? (i := 22) rfl))))))) (h 11 (by decide))
  | 12, hq => cases hq; exact vk_R.of (hts _ (List.mem_append_right _ (List.mem_append_right _ (List.mem_append_right _ (List.mem_append_right _ (List.mem_append_left _ (List.mem_of_getElem? (i := 26) rfl))))))) (h 12 (by decide))
  | 13, hq => cases hq; exact vk_R.of (hts _ (List.mem_append_right _ (List.mem_append_right _ (List.mem_append_right _ (List.mem_append_right _ (List.mem_append_left _ (List.mem_of_getElem? (i := 27) rfl))))))) (h 13 (by decide))
  | 14, hq => cases hq; exact vk_R.of (hts _ (List.mem_append_right _ (List.mem_append_right _ (List.mem_append_right _ (List.mem_append_right _ (List.mem_append_left _ (List.mem_of_getElem? (i := 28) rfl))))))) (h 14 (by decide))
  | 15, hq => cases hq; exact vk_R.of (hts _ (List.mem_append_right _ (List.mem_append_right _ (List.mem_append_right _ (List.mem_append_right _ (List.mem_append_left _ (List.mem_of_getElem? (i := 29) rfl))))))) (h 15 (by decide))
  | 16, hq => cases hq; exact vk_R.of (hts _ (List.mem_append_right _ (List.mem_append_right _ (List.mem_append_right _ (List.mem_append_right _ (List.mem_append_left _ (List.mem_of_getElem? (i := 84) rfl))))))) (h 16 (by decide))
  | 17, hq => cases hq; exact vk_R.of (hts _ (List.mem_append_right _ (List.mem_append_right _ (List.mem_append_right _ (List.mem_append_right _ (List.mem_append_left _ (List.mem_of_getElem? (i := 120) rfl))))))) (h 17 (by decide))
  | 18, hq => cases hq; exact vk_R.of (hts _ (List.mem_append_right _ (List.mem_append_right _ (List.mem_append_right _ (List.mem_append_right _ (List.mem_append_left _ (List.mem_of_getElem? (i := 147) rfl))))))) (h 18 (by decide))
  | 19, hq => cases hq; exact vk_R.of (hts _ (List.mem_append_right _ (List.mem_append_right _ (List.mem_append_right _ (List.mem_append_right _ (List.mem_append_left _ (List.mem_of_getElem? (i := 149) rfl))))))) (h 19 (by decide))
  | 20, hq => cases hq; exact vk_R.of (hts _ (List.mem_append_right _ (List.mem_append_right _ (List.mem_append_right _ (List.mem_append_right _ (List.mem_append_left _ (List.mem_of_getElem? (i := 150) rfl))))))) (h 20 (by decide))
  | 21, hq => cases hq; exact vk_R.of (hts _ (List.mem_append_right _ (List.mem_append_right _ (List.mem_append_right _ (List.mem_append_right _ (List.mem_append_left _ (List.mem_of_getElem? (i := 157) rfl))))))) (h 21 (by decide))
  | 22, hq => cases hq; exact vk_R.of (hts _ (List.mem_append_right _ (List.mem_append_right _ (List.mem_append_right _ (List.mem_append_right _ (List.mem_append_left _ (List.mem_of_getElem? (i := 171) rfl))))))) (h 22 (by decide))
  | 23, hq => cases hq; exact vk_R.of (hts _ (List.mem_append_right _ (List.mem_append_right _ (List.mem_append_right _ (List.mem_append_right _ (List.mem_append_left _ (List.mem_of_getElem? (i := 182) rfl))))))) (h 23 (by decide))
  | 24, hq => cases hq; exact vk_R.of (hts _ (List.mem_append_right _ (List.mem_append_right _ (List.mem_append_right _ (List.mem_append_right _ (List.mem_append_left _ (List.mem_of_getElem? (i := 183) rfl))))))) (h 24 (by decide))
  | 25, hq => cases hq; exact vk_R.of (hts _ (List.mem_append_right _ (List.mem_append_right _ (List.mem_append_right _ (List.mem_append_right _ (List.mem_append_left _ (List.mem_of_getElem? (i := 184) rfl))))))) (h 25 (by decide))
  | 26, hq => cases hq; exact vk_R.of (hts _ (List.mem_append_right _ (List.mem_append_right _ (List.mem_append_right _ (List.mem_append_right _ (List.mem_append_left _ (List.mem_of_getElem? (i := 192) rfl))))))) (st_eqr (a := .string "BlushCourt$CourtText" 28) (b := .string "BlushCourt$Law" 128) (st_subl [false, true, false, true, false, true, false, false, false, true, true] hgv rfl) (h 0 (by decide)))
  | 27, hq => cases hq; exact vk_R.of (hts _ (List.mem_append_right _ (List.mem_append_right _ (List.mem_append_right _ (List.mem_append_right _ (List.mem_append_left _ (List.mem_of_getElem? (i := 193) rfl))))))) (st_eqr (a := .string "BlushCourt$CourtText" 101) (b := .string "BlushCourt$Law" 130) (st_subl [false, true, false, true, false, false, true, true, false, true, false] hgv rfl) (h 1 (by decide)))
  | 28, hq => cases hq; exact vk_R.of (hts _ (List.mem_append_right _ (List.mem_append_right _ (List.mem_append_right _ (List.mem_append_right _ (List.mem_append_left _ (List.mem_of_getElem? (i := 194) rfl))))))) (st_eqr (a := .string "BlushCourt$CourtText" 103) (b := .string "BlushCourt$Law" 132) (st_subl [false, true, false, true, false, false, true, false, false, false, false] hgv rfl) (h 2 (by decide)))
  | 29, hq => cases hq; exact vk_R.of (hts _ (List.mem_append_right _ (List.mem_append_right _ (List.mem_append_right _ (List.mem_append_right _ (List.mem_append_left _ (List.mem_of_getElem? (i := 195) rfl))))))) (st_eqr (a := .string "BlushCourt$CourtText" 105) (b := .string "BlushCourt$Law" 134) (st_subl [false, true, false, true, false, false, false, false, true, true, false] hgv rfl) (h 3 (by decide)))
  | 30, hq => cases hq; exact vk_R.of (hts _ (List.mem_append_right _ (List.mem_append_right _ (List.mem_append_right _ (List.mem_append_right _ (List.mem_append_left _ (List.mem_of_getElem? (i := 196) rfl))))))) (st_eqr (a := .string "BlushCourt$CourtText" 107) (b := .string "BlushCourt$Law" 136) (st_subl [false, true, false, false, true, true, true, true, true, false, true] hgv rfl) (h 4 (by decide)))
  | 31, hq => cases hq; exact vk_R.of (hts _ (List.mem_append_right _ (List.mem_append_right _ (List.mem_append_right _ (List.mem_append_right _ (List.mem_append_left _ (List.mem_of_getElem? (i := 197) rfl))))))) (st_eqr (a := .string "BlushCourt$CourtText" 77) (b := .string "BlushCourt$Law" 138) (st_subl [false, true, false, false, true, true, true, false, true, false, false] hgv rfl) (h 12 (by decide)))
  | 32, hq => cases hq; exact vk_R.of (hts _ (List.mem_append_right _ (List.mem_append_right _ (List.mem_append_right _ (List.mem_append_right _ (List.mem_append_left _ (List.mem_of_getElem? (i := 198) rfl))))))) (st_eqr (a := .string "BlushCourt$CourtText" 124) (b := .string "BlushCourt$Law" 140) (st_subl [false, true, false, false, true, true, false, true, false, false, true] hgv rfl) (h 6 (by decide)))
  | 33, hq => cases hq; exact vk_R.of (hts _ (List.mem_append_right _ (List.mem_append_right _ (List.mem_append_right _ (List.mem_append_right _ (List.mem_append_left _ (List.mem_of_getElem? (i := 199) rfl))))))) (h 26 (by decide))
  | 34, hq => cases hq; exact vk_R.of (hts _ (List.mem_append_right _ (List.mem_append_right _ (List.mem_append_right _ (List.mem_append_right _ (List.mem_append_left _ (List.mem_of_getElem? (i := 200) rfl))))))) (h 27 (by decide))
  | 35, hq => cases hq; exact vk_R.of (hts _ (List.mem_append_right _ (List.mem_append_right _ (List.mem_append_right _ (List.mem_append_right _ (List.mem_append_left _ (List.mem_of_getElem? (i := 201) rfl))))))) (h 28 (by decide))
  | 36, hq => cases hq; exact vk_R.of (hts _ (List.mem_append_right _ (List.mem_append_right _ (List.mem_append_right _ (List.mem_append_right _ (List.mem_append_left _ (List.mem_of_getElem? (i := 224) rfl))))))) (h 29 (by decide))
  | 37, hq => cases hq; exact vk_R.of (hts _ (List.mem_append_right _ (List.mem_append_right _ (List.mem_append_right _ (List.mem_append_right _ (List.mem_append_right _ (List.mem_append_left _ (List.mem_of_getElem? (i := 17) rfl)))))))) (h 30 (by decide))
  | 38, hq => cases hq; exact vk_R.of (hts _ (List.mem_append_right _ (List.mem_append_right _ (List.mem_append_right _ (List.mem_append_right _ (List.mem_append_right _ (List.mem_append_left _ (List.mem_of_getElem? (i := 35) rfl)))))))) (h 31 (by decide))
  | 39, hq => cases hq; exact vk_R.of (hts _ (List.mem_append_right _ (List.mem_append_right _ (List.mem_append_right _ (List.mem_append_right _ (List.mem_append_right _ (List.mem_append_left _ (List.mem_of_getElem? (i := 52) rfl)))))))) (h 32 (by decide))
  | 40, hq => cases hq; exact vk_R.of (hts _ (List.mem_append_right _ (List.mem_append_right _ (List.mem_append_right _ (List.mem_append_right _ (List.mem_append_right _ (List.mem_append_left _ (List.mem_of_getElem? (i := 64) rfl)))))))) (h 33 (by decide))
  | 41, hq => cases hq; exact vk_R.of (hts _ (List.mem_append_right _ (List.mem_append_right _ (List.mem_append_right _ (List.mem_append_right _ (List.mem_append_right _ (List.mem_append_left _ (List.mem_of_getElem? (i := 76) rfl)))))))) (h 34 (by decide))
  | 42, hq => cases hq; exact vk_R.of (hts _ (List.mem_append_right _ (List.mem_append_right _ (List.mem_append_right _ (List.mem_append_right _ (List.mem_append_right _ (List.mem_append_left _ (List.mem_of_getElem? (i := 88) rfl)))))))) (h 35 (by decide))
  | 43, hq => cases hq; exact vk_R.of (hts _ (List.mem_append_right _ (List.mem_append_right _ (List.mem_append_right _ (List.mem_append_right _ (List.mem_append_right _ (List.mem_append_left _ (List.mem_of_getElem? (i := 96) rfl)))))))) (h 36 (by decide))
  | 44, hq => cases hq; exact vk_R.of (hts _ (List.mem_append_right _ (List.mem_append_right _ (List.mem_append_right _ (List.mem_append_right _ (List.mem_append_right _ (List.mem_append_left _ (List.mem_of_getElem? (i := 150) rfl)))))))) (h 37 (by decide))
  | 45, hq => cases hq; exact vk_R.of (hts _ (List.mem_append_right _ (List.mem_append_right _ (List.mem_append_right _ (List.mem_append_right _ (List.mem_append_right _ (List.mem_append_left _ (List.mem_of_getElem? (i := 162) rfl)))))))) (h 38 (by decide))
  | 46, hq => cases hq; exact vk_R.of (hts _ (List.mem_append_right _ (List.mem_append_right _ (List.mem_append_right _ (List.mem_append_right _ (List.mem_append_right _ (List.mem_append_left _ (List.mem_of_getElem? (i := 171) rfl)))))))) (h 39 (by decide))
  | 47, hq => cases hq; exact vk_R.of (hts _ (List.mem_append_right _ (List.mem_append_right _ (List.mem_append_right _ (List.mem_append_right _ (List.mem_append_right _ (List.mem_append_left _ (List.mem_of_getElem? (i := 190) rfl)))))))) (h 40 (by decide))
  | 48, hq => cases hq; exact vk_R.of (hts _ (List.mem_append_right _ (List.mem_append_right _ (List.mem_append_right _ (List.mem_append_right _ (List.mem_append_right _ (List.mem_append_right _ (List.mem_append_left _ (List.mem_of_getElem? (i := 11) rfl))))))))) (h 41 (by decide))
  | 49, hq => cases hq; exact vk_R.of (hts _ (List.mem_append_right _ (List.mem_append_right _ (List.mem_append_right _ (List.mem_append_right _ (List.mem_append_right _ (List.mem_append_right _ (List.mem_append_right _ (List.mem_append_left _ (List.mem_of_getElem? (i := 14) rfl)))))))))) (h 42 (by decide))
  | 50, hq => cases hq; exact vk_R.of (hts _ (List.mem_append_right _ (List.mem_append_right _ (List.mem_append_right _ (List.mem_append_right _ (List.mem_append_right _ (List.mem_append_right _ (List.mem_append_right _ (List.mem_append_left _ (List.mem_of_getElem? (i := 164) rfl)))))))))) (st_eqr (a := .string "BlushCourt$CourtText" 28) (b := .string "BlushCourtModel" 178) (st_subl [false, false, false, true, true, true, true, false, true, true, true] hgv rfl) (h 0 (by decide)))
  | 51, hq => cases hq; exact vk_R.of (hts _ (List.mem_append_right _ (List.mem_append_right _ (List.mem_append_right _ (List.mem_append_right _ (List.mem_append_right _ (List.mem_append_right _ (List.mem_append_right _ (List.mem_append_left _ (List.mem_of_getElem? (i := 179) rfl)))))))))) (st_eqr (a := .string "BlushCourt$CourtText" 101) (b := .string "BlushCourtModel" 150) (st_subl [false, false, false, true, true, true, false, true, true, false, true] hgv rfl) (h 1 (by decide)))
  | 52, hq => cases hq; exact vk_R.of (hts _ (List.mem_append_right _ (List.mem_append_right _ (List.mem_append_right _ (List.mem_append_right _ (List.mem_append_right _ (List.mem_append_right _ (List.mem_append_right _ (List.mem_append_left _ (List.mem_of_getElem? (i := 188) rfl)))))))))) (st_eqr (a := .string "BlushCourt$CourtText" 103) (b := .string "BlushCourtModel" 156) (st_subl [false, false, false, true, true, true, false, false, false, true, false] hgv rfl) (h 2 (by decide)))
  | 53, hq => cases hq; exact vk_R.of (hts _ (List.mem_append_right _ (List.mem_append_right _ (List.mem_append_right _ (List.mem_append_right _ (List.mem_append_right _ (List.mem_append_right _ (List.mem_append_right _ (List.mem_append_left _ (List.mem_of_getElem? (i := 189) rfl)))))))))) (st_eqr (a := .string "BlushCourt$CourtText" 105) (b := .string "BlushCourtModel" 158) (st_subl [false, false, false, true, true, false, true, false, true, true, true] hgv rfl) (h 3 (by decide)))
  | 54, hq => cases hq; exact vk_R.of (hts _ (List.mem_append_right _ (List.mem_append_right _ (List.mem_append_right _ (List.mem_append_right _ (List.mem_append_right _ (List.mem_append_right _ (List.mem_append_right _ (List.mem_append_left _ (List.mem_of_getElem? (i := 198) rfl)))))))))) (st_eqr (a := .string "BlushCourt$CourtText" 107) (b := .string "BlushCourtModel" 164) (st_subl [false, false, false, true, true, false, false, true, true, false, false] hgv rfl) (h 4 (by decide)))
  | 55, hq => cases hq; exact vk_R.of (hts _ (List.mem_append_right _ (List.mem_append_right _ (List.mem_append_right _ (List.mem_append_right _ (List.mem_append_right _ (List.mem_append_right _ (List.mem_append_right _ (List.mem_append_left _ (List.mem_of_getElem? (i := 202) rfl)))))))))) (st_eqr (a := .string "BlushCourt$CourtText" 50) (b := .string "BlushCourtModel" 184) (st_subl [false, false, false, true, true, false, false, false, false, false, true] hgv rfl) (h 5 (by decide)))
  | 56, hq => cases hq; exact vk_R.of (hts _ (List.mem_append_right _ (List.mem_append_right _ (List.mem_append_right _ (List.mem_append_right _ (List.mem_append_right _ (List.mem_append_right _ (List.mem_append_right _ (List.mem_append_left _ (List.mem_of_getElem? (i := 211) rfl)))))))))) (st_eqr (a := .string "BlushCourt$CourtText" 124) (b := .string "BlushCourtModel" 166) (st_subl [false, false, false, true, false, true, true, false, true, true, false] hgv rfl) (h 6 (by decide)))
  | 57, hq => cases hq; exact vk_R.of (hts _ (List.mem_append_right _ (List.mem_append_right _ (List.mem_append_right _ (List.mem_append_right _ (List.mem_append_right _ (List.mem_append_right _ (List.mem_append_right _ (List.mem_append_left _ (List.mem_of_getElem? (i := 212) rfl)))))))))) (st_eqr (a := .string "BlushCourt$CourtText" 126) (b := .string "BlushCourtModel" 168) (st_subl [false, false, false, true, false, true, false, true, false, false, true] hgv rfl) (h 7 (by decide)))
  | 58, hq => cases hq; exact vk_R.of (hts _ (List.mem_append_right _ (List.mem_append_right _ (List.mem_append_right _ (List.mem_append_right _ (List.mem_append_right _ (List.mem_append_right _ (List.mem_append_right _ (List.mem_append_left _ (List.mem_of_getElem? (i := 223) rfl)))))))))) (st_eqr (a := .string "BlushCourt$CourtText" 135) (b := .string "BlushCourtModel" 174) (st_subl [false, false, false, true, false, true, false, false, false, true, false] hgv rfl) (h 8 (by decide)))
  | 59, hq => cases hq; exact vk_R.of (hts _ (List.mem_append_right _ (List.mem_append_right _ (List.mem_append_right _ (List.mem_append_right _ (List.mem_append_right _ (List.mem_append_right _ (List.mem_append_right _ (List.mem_append_left _ (List.mem_of_getElem? (i := 224) rfl)))))))))) (st_eqr (a := .string "BlushCourt$CourtText" 58) (b := .string "BlushCourtModel" 189) (st_subl [false, false, false, true, false, false, true, true, false, true, false] hgv rfl) (h 9 (by decide)))
  | 60, hq => cases hq; exact vk_R.of (hts _ (List.mem_append_right _ (List.mem_append_right _ (List.mem_append_right _ (List.mem_append_right _ (List.mem_append_right _ (List.mem_append_right _ (List.mem_append_right _ (List.mem_append_left _ (List.mem_of_getElem? (i := 233) rfl)))))))))) (st_eqr (a := .string "BlushCourt$CourtText" 66) (b := .string "BlushCourtModel" 194) (st_subl [false, false, false, true, false, false, true, false, false, false, false] hgv rfl) (h 10 (by decide)))
  | 61, hq => cases hq; exact vk_R.of (hts _ (List.mem_append_right _ (List.mem_append_right _ (List.mem_append_right _ (List.mem_append_right _ (List.mem_append_right _ (List.mem_append_right _ (List.mem_append_right _ (List.mem_append_right _ (List.mem_append_left _ (List.mem_of_getElem? (i := 2) rfl))))))))))) (st_eqr (a := .string "BlushCourt$CourtText" 146) (b := .string "BlushCourtModel" 176) (st_subl [false, false, false, true, false, false, false, false, true, true, false] hgv rfl) (h 11 (by decide)))
  | 62, hq => cases hq; exact vk_R.of (hts _ (List.mem_append_right _ (List.mem_append_right _ (List.mem_append_right _ (List.mem_append_right _ (List.mem_append_right _ (List.mem_append_right _ (List.mem_append_right _ (List.mem_append_right _ (List.mem_append_left _ (List.mem_of_getElem? (i := 3) rfl))))))))))) (st_eqr (a := .string "BlushCourt$CourtText" 77) (b := .string "BlushCourtModel" 199) (st_subl [false, false, false, false, true, true, true, true, true, true, false] hgv rfl) (h 12 (by decide)))
  | 63, hq => cases hq; exact vk_R.of (hts _ (List.mem_append_right _ (List.mem_append_right _ (List.mem_append_right _ (List.mem_append_right _ (List.mem_append_right _ (List.mem_append_right _ (List.mem_append_right _ (List.mem_append_right _ (List.mem_append_left _ (List.mem_of_getElem? (i := 8) rfl))))))))))) (st_eqr (a := .string "BlushCourt$CourtText" 85) (b := .string "BlushCourtModel" 204) (st_subl [false, false, false, false, true, true, true, false, false, true, true] hgv rfl) (h 13 (by decide)))
  | 64, hq => cases hq; exact vk_R.of (hts _ (List.mem_append_right _ (List.mem_append_right _ (List.mem_append_right _ (List.mem_append_right _ (List.mem_append_right _ (List.mem_append_right _ (List.mem_append_right _ (List.mem_append_right _ (List.mem_append_left _ (List.mem_of_getElem? (i := 9) rfl))))))))))) (st_eqr (a := .string "BlushCourt$CourtText" 90) (b := .string "BlushCourtModel" 206) (st_subl [false, false, false, false, true, true, false, true, false, true, false] hgv rfl) (h 14 (by decide)))
  | 65, hq => cases hq; exact vk_R.of (hts _ (List.mem_append_right _ (List.mem_append_right _ (List.mem_append_right _ (List.mem_append_right _ (List.mem_append_right _ (List.mem_append_right _ (List.mem_append_right _ (List.mem_append_right _ (List.mem_append_left _ (List.mem_of_getElem? (i := 10) rfl))))))))))) (st_eqr (a := .string "BlushCourt$CourtText" 94) (b := .string "BlushCourtModel" 208) (st_subl [false, false, false, false, true, false, true, true, true, true, true] hgv rfl) (h 15 (by decide)))
  | 66, hq => cases hq; exact vk_R.of (hts _ (List.mem_append_right _ (List.mem_append_right _ (List.mem_append_right _ (List.mem_append_right _ (List.mem_append_right _ (List.mem_append_right _ (List.mem_append_right _ (List.mem_append_right _ (List.mem_append_left _ (List.mem_of_getElem? (i := 15) rfl))))))))))) (st_eqr (a := .string "BlushCourt$Law" 85) (b := .string "BlushCourtModel" 259) (st_subl [false, false, false, false, true, false, true, false, true, true, false] hgv rfl) (h 18 (by decide)))
  | 67, hq => cases hq; exact vk_R.of (hts _ (List.mem_append_right _ (List.mem_append_right _ (List.mem_append_right _ (List.mem_append_right _ (List.mem_append_right _ (List.mem_append_right _ (List.mem_append_right _ (List.mem_append_right _ (List.mem_append_left _ (List.mem_of_getElem? (i := 16) rfl))))))))))) (st_eqr (a := .string "BlushCourt$Law" 90) (b := .string "BlushCourtModel" 260) (st_subl [false, false, false, false, true, false, false, true, true, false, true] hgv rfl) (h 19 (by decide)))
  | 68, hq => cases hq; exact vk_R.of (hts _ (List.mem_append_right _ (List.mem_append_right _ (List.mem_append_right _ (List.mem_append_right _ (List.mem_append_right _ (List.mem_append_right _ (List.mem_append_right _ (List.mem_append_right _ (List.mem_append_left _ (List.mem_of_getElem? (i := 17) rfl))))))))))) (st_eqr (a := .string "BlushCourt$Law" 92) (b := .string "BlushCourtModel" 261) (st_subl [false, false, false, false, true, false, false, false, true, false, false] hgv rfl) (h 20 (by decide)))
  | 69, hq => cases hq; exact vk_R.of (hts _ (List.mem_append_right _ (List.mem_append_right _ (List.mem_append_right _ (List.mem_append_right _ (List.mem_append_right _ (List.mem_append_right _ (List.mem_append_right _ (List.mem_append_right _ (List.mem_append_left _ (List.mem_of_getElem? (i := 18) rfl))))))))))) (st_eqr (a := .string "BlushCourt$Law" 75) (b := .string "BlushCourtModel" 263) (st_subl [false, false, false, false, false, true, true, true, true, false, true] hgv rfl) (h 21 (by decide)))
  | 70, hq => cases hq; exact vk_R.of (hts _ (List.mem_append_right _ (List.mem_append_right _ (List.mem_append_right _ (List.mem_append_right _ (List.mem_append_right _ (List.mem_append_right _ (List.mem_append_right _ (List.mem_append_right _ (List.mem_append_left _ (List.mem_of_getElem? (i := 35) rfl))))))))))) (st_eqr (a := .string "BlushCourt$Law" 108) (b := .string "BlushCourtModel" 241) (st_subl [false, false, false, false, false, true, true, false, true, false, true] hgv rfl) (h 22 (by decide)))
  | 71, hq => cases hq; exact vk_R.of (hts _ (List.mem_append_right _ (List.mem_append_right _ (List.mem_append_right _ (List.mem_append_right _ (List.mem_append_right _ (List.mem_append_right _ (List.mem_append_right _ (List.mem_append_right _ (List.mem_append_left _ (List.mem_of_getElem? (i := 44) rfl))))))))))) (st_eqr (a := .string "BlushCourt$Law" 116) (b := .string "BlushCourtModel" 229) (st_subl [false, false, false, false, false, true, false, true, false, false, true] hgv rfl) (h 23 (by decide)))
  | 72, hq => cases hq; exact vk_R.of (hts _ (List.mem_append_right _ (List.mem_append_right _ (List.mem_append_right _ (List.mem_append_right _ (List.mem_append_right _ (List.mem_append_right _ (List.mem_append_right _ (List.mem_append_right _ (List.mem_append_left _ (List.mem_of_getElem? (i := 45) rfl))))))))))) (st_eqr (a := .string "BlushCourt$Law" 118) (b := .string "BlushCourtModel" 231) (st_subl [false, false, false, false, false, true, false, false, false, false, true] hgv rfl) (h 24 (by decide)))
  | 73, hq => cases hq; exact vk_R.of (hts _ (List.mem_append_right _ (List.mem_append_right _ (List.mem_append_right _ (List.mem_append_right _ (List.mem_append_right _ (List.mem_append_right _ (List.mem_append_right _ (List.mem_append_right _ (List.mem_append_left _ (List.mem_of_getElem? (i := 46) rfl))))))))))) (st_eqr (a := .string "BlushCourt$Law" 120) (b := .string "BlushCourtModel" 233) (st_subl [false, false, false, false, false, false, true, true, false, false, false] hgv rfl) (h 25 (by decide)))
  | 74, hq => cases hq; exact vk_R.of (hts _ (List.mem_append_right _ (List.mem_append_right _ (List.mem_append_right _ (List.mem_append_right _ (List.mem_append_right _ (List.mem_append_right _ (List.mem_append_right _ (List.mem_append_right _ (List.mem_append_left _ (List.mem_of_getElem? (i := 59) rfl))))))))))) (st_eqr (a := .string "BlushCourt$Law" 142) (b := .string "BlushCourtModel" 213) (st_subl [false, false, false, false, false, false, false, true, true, true, false] hgv rfl) (h 26 (by decide)))
  | 75, hq => cases hq; exact vk_R.of (hts _ (List.mem_append_right _ (List.mem_append_right _ (List.mem_append_right _ (List.mem_append_right _ (List.mem_append_right _ (List.mem_append_right _ (List.mem_append_right _ (List.mem_append_right _ (List.mem_append_left _ (List.mem_of_getElem? (i := 60) rfl))))))))))) (st_eqr (a := .string "BlushCourt$Law" 106) (b := .string "BlushCourtModel" 252) (st_subl [false, false, false, false, false, false, false, false, true, true, false] hgv rfl) (h 27 (by decide)))
  | 76, hq => cases hq; exact vk_R.of (hts _ (List.mem_append_right _ (List.mem_append_right _ (List.mem_append_right _ (List.mem_append_right _ (List.mem_append_right _ (List.mem_append_right _ (List.mem_append_right _ (List.mem_append_right _ (List.mem_append_left _ (List.mem_of_getElem? (i := 61) rfl))))))))))) (st_eqr (a := .string "BlushCourt$Law" 97) (b := .string "BlushCourtModel" 257) (st_subl [false, false, false, false, false, false, false, false, false, false, false, false] hgv rfl) (h 28 (by decide)))
  | n + 77, hq => simp [zStrs] at hq
