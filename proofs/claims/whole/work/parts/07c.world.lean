/-! ===== the world at the start: from the order of making to the shape ===== -/
def zPerm : List Nat := [252, 253, 254, 255, 256, 257, 258, 259, 260, 261, 262, 263, 264, 265, 266, 267, 268, 269, 270, 0, 1, 2, 3, 4, 5, 6, 7, 8, 9, 10, 11, 12, 13, 14, 15, 16, 230, 231, 232, 233, 234, 235, 236, 229, 237, 238, 239, 240, 241, 242, 243, 244, 245, 246, 247, 248, 249, 250, 251, 59, 60, 17, 18, 19, 20, 21, 22, 23, 24, 25, 26, 27, 28, 29, 30, 31, 32, 33, 34, 35, 36, 37, 38, 39, 40, 41, 42, 43, 44, 45, 46, 47, 48, 49, 50, 51, 52, 53, 54, 55, 56, 57, 58, 61, 62, 63, 64, 65, 66, 67, 68, 69, 70, 71, 72, 73, 74, 75, 76, 77, 78, 79, 80, 81, 82, 83, 84, 85, 86, 87, 88, 89, 90, 91, 92, 93, 94, 95, 96, 97, 98, 99, 100, 101, 102, 103, 104, 105, 106, 107, 108, 109, 110, 111, 112, 113, 114, 115, 116, 117, 118, 119, 120, 121, 122, 123, 124, 125, 126, 127, 128, 129, 130, 131, 132, 133, 134, 135, 136, 137, 138, 139, 140, 141, 142, 143, 144, 145, 146, 147, 148, 149, 150, 151, 152, 153, 154, 155, 156, 157, 158, 159, 160, 161, 162, 163, 164, 165, 166, 167, 168, 169, 170, 171, 172, 173, 174, 175, 176, 177, 178, 179, 180, 181, 182, 183, 184, 185, 186, 187, 188, 189, 190, 191, 192, 193, 194, 195, 196, 197, 198, 199, 200, 201, 202, 203, 204, 205, 206, 207, 208, 209, 210, 211, 212, 213, 214, 215, 216, 217, 218, 219, 220, 221, 222, 223, 224, 225, 226, 227, 228]
def zVerm : List Nat := [19, 20, 21, 22, 23, 24, 25, 26, 27, 28, 29, 30, 31, 32, 33, 34, 35, 61, 62, 63, 64, 65, 66, 67, 68, 69, 70, 71, 72, 73, 74, 75, 76, 77, 78, 79, 80, 81, 82, 83, 84, 85, 86, 87, 88, 89, 90, 91, 92, 93, 94, 95, 96, 97, 98, 99, 100, 101, 102, 59, 60, 103, 104, 105, 106, 107, 108, 109, 110, 111, 112, 113, 114, 115, 116, 117, 118, 119, 120, 121, 122, 123, 124, 125, 126, 127, 128, 129, 130, 131, 132, 133, 134, 135, 136, 137, 138, 139, 140, 141, 142, 143, 144, 145, 146, 147, 148, 149, 150, 151, 152, 153, 154, 155, 156, 157, 158, 159, 160, 161, 162, 163, 164, 165, 166, 167, 168, 169, 170, 171, 172, 173, 174, 175, 176, 177, 178, 179, 180, 181, 182, 183, 184, 185, 186, 187, 188, 189, 190, 191, 192, 193, 194, 195, 196, 197, 198, 199, 200, 201, 202, 203, 204, 205, 206, 207, 208, 209, 210, 211, 212, 213, 214, 215, 216, 217, 218, 219, 220, 221, 222, 223, 224, 225, 226, 227, 228, 229, 230, 231, 232, 233, 234, 235, 236, 237, 238, 239, 240, 241, 242, 243, 244, 245, 246, 247, 248, 249, 250, 251, 252, 253, 254, 255, 256, 257, 258, 259, 260, 261, 262, 263, 264, 265, 266, 267, 268, 269, 270, 43, 36, 37, 38, 39, 40, 41, 42, 44, 45, 46, 47, 48, 49, 50, 51, 52, 53, 54, 55, 56, 57, 58, 0, 1, 2, 3, 4, 5, 6, 7, 8, 9, 10, 11, 12, 13, 14, 15, 16, 17, 18]
def zp (o : Nat) : Nat := zPerm.getD o 0
theorem zp_inv : ∀ o, o < 271 → zVerm.getD (zp o) 0 = o := by decide +kernel
theorem zp_lt : ∀ o, o < 271 → zp o < 271 := by decide +kernel
theorem zp_inj {i j : Nat} (hi : i < 271) (hj : j < 271) (h : zp i = zp j) : i = j := by
  rw [← zp_inv i hi, ← zp_inv j hj, h]
/-- the numbers at the start, of an object by its class -/
def zF0 (c j : Nat) : Int32 := if c = 3 then (if j = 11 then 3 else if j = 15 then 1 else 0) else if c = 5 then (if j = 6 then -1 else 0) else if c = 0 then (if j = 2 then -1 else if j = 3 then -1 else 0) else if c = 2 then (if j = 2 then -1 else 0) else if c = 10 then (if j = 11 then -1 else 0) else if c = 11 then (if j = 14 then -1 else 0) else 0
def zI0 (o j : Nat) : Int32 := match zShape[o]? with
  | some (.inl c) => zF0 c.1 j
  | some (.inr _) => if o = 1 then (if j = 11 then 1 else if j = 7 then 3 else 0) else 0
  | none => 0
def zM0 : zM := (zI0, fun _ _ => 0)
def ysF : List yEnt := yb_X11 0 ++ (yb_X12 252 ++ [.inr (3, 1, (fun _ => 0), (fun _ => none))])
def zokF (o j : Nat) : Option Nat → Value → Bool
  | some r, .ref q => q == zp r && decide (r < 271)
  | none, .int v => v == zI0 o j
  | _, _ => false
def zokFs (o : Nat) : Nat → List (Option Nat) → List Value → Bool
  | _, [], [] => true
  | j, x :: xs, v :: vs => zokF o j x v && zokFs o (j + 1) xs vs
  | _, _, _ => false
def zokA (o : Nat) (a : Nat × Nat) (b : Nat × Nat × (Nat → Int32) × (Nat → Option Nat)) : Bool := a.1 == b.1 && (a.2 == b.2.1 && (if a.1 = 4 then (List.range a.2).all (fun j => b.2.2.2 j == some (zp (zcourt j)) && decide (zcourt j < 271)) else if a.1 = 3 then true else (List.range a.2).all (fun j => b.2.2.1 j == zI0 o j)))
def zok (o : Nat) : Bool := match zShape[o]?, ysF[zp o]? with
  | some (.inl c), some (.inl d) => c.1 == d.1 && zokFs o 0 c.2 d.2
  | some (.inr a), some (.inr b) => zokA o a b
  | _, _ => false
theorem zok_all : ∀ o, o < 271 → zok o = true := by decide +kernel
theorem zokFs_at {E0 E1 : zEv} {o : Nat} (hE : ∀ r, r < 271 → zad E1 r = zad E0 (zp r)) : ∀ (xs : List (Option Nat)) (vs : List Value) (j : Nat), zokFs o j xs vs = true → xs.mapIdx (fun i x => zFv E1 (zI0 o) (j + i) x) = vs.map (zV E0) := by
  intro xs
  induction xs with
  | nil =>
    intro vs j h
    cases vs with
    | nil => rfl
    | cons => cases h
  | cons x xs ih =>
    intro vs j h
    cases vs with
    | nil => cases h
    | cons v vs =>
      simp only [zokFs, Bool.and_eq_true] at h
      have h2 := ih vs (j + 1) h.2
      rw [List.mapIdx_cons, List.map_cons, Nat.add_zero]
      congr 1
      · cases x with
        | none =>
          cases v <;> first | (cases h.1; done) | skip
          have := h.1
          simp only [zokF, beq_iff_eq] at this
          rw [this]; rfl
        | some r =>
          cases v <;> first | (cases h.1; done) | skip
          have := h.1
          simp only [zokF, Bool.and_eq_true, beq_iff_eq, decide_eq_true_eq] at this
          show Value.ref (zad E1 r) = Value.ref (zad E0 _)
          rw [this.1, hE r this.2]
      · rw [← h2]
        congr 1
        funext i y
        rw [Nat.add_right_comm, Nat.add_assoc]
theorem arrV_ext {cA : ClassId} {n : Nat} {f g : Nat → Value} (h : ∀ j, j < n → f j = g j) : arrV cA n f = arrV cA n g := by
  unfold arrV
  congr 2
  funext j
  exact h j.1 j.2
theorem zStart {E0 E1 : zEv} {H : Heap} (hD : zD E1 = zD E0) (hT : ztc E1 = ztc E0) (hE : ∀ r, r < 271 → zad E1 r = zad E0 (zp r)) (h : va_P (zD E0) vwCl (yW E0 ysF) H) : va_P (zD E1) vwCl (zW E1 zM0) H := by
  intro k q hk
  have hk2 : k < 271 := by
    have := (List.getElem?_eq_some_iff.mp hk).1
    simpa [zW] using this
  have hok := zok_all k hk2
  unfold zok at hok
  cases hs : zShape[k]? with
  | none => rw [hs] at hok; cases hok
  | some x =>
    cases hy : ysF[zp k]? with
    | none => rw [hs, hy] at hok; cases x <;> cases hok
    | some y =>
      rw [zW_at E1 zM0 hs] at hk
      cases hk
      have h1 := h (zp k) _ (yW_get hy)
      rw [← hE k hk2] at h1
      rw [hD]
      rw [hs, hy] at hok
      cases x with
      | inl c =>
        cases y with
        | inr b => cases hok
        | inl d =>
          simp only [Bool.and_eq_true, beq_iff_eq] at hok
          have e := zokFs_at hE c.2 d.2 0 hok.2
          have e2 : zEn E1 zM0 k = yR E0 (.inl d) := by
            simp only [zEn, hs, yR]
            rw [← e, hok.1]
            congr 3
            funext i x
            rw [Nat.zero_add]; rfl
          rw [e2]; exact h1
      | inr a =>
        cases y with
        | inl d => cases hok
        | inr b =>
          obtain ⟨t, n⟩ := a
          obtain ⟨t', n', f, g⟩ := b
          simp only [zokA, Bool.and_eq_true, beq_iff_eq] at hok
          obtain ⟨rfl, rfl, h3⟩ := hok
          show va_at (zD E0) vwCl (zad E1 k, zEn E1 zM0 k) H
          have e1 : zEn E1 zM0 k = zArr E1 zM0 k t n := by simp only [zEn, hs]
          rw [e1]
          by_cases h4 : t = 4
          · subst h4
            rw [if_pos rfl] at h3
            show H[zad E1 k]? = some (vp_cell _ _)
            have h5 : H[zad E1 k]? = some (vp_cell (ztc E0 4) (n, .inr (.inr (.inr (.inr (fun j => (g j).map (zad E0))))))) := h1
            rw [h5]
            show some (vp_cell (ztc E0 4) (n, .inr (.inr (.inr (.inr (fun j => (g j).map (zad E0))))))) = some (vp_cell (ztc E1 4) (n, .inr (.inr (.inr (.inr (fun j => some (zad E1 (zcourt j))))))))
            rw [hT, vp_cell_q, vp_cell_q]
            congr 1
            refine arrV_ext fun j hj => ?_
            have h6 := List.all_eq_true.mp h3 j (List.mem_range.mpr hj)
            simp only [Bool.and_eq_true, beq_iff_eq, decide_eq_true_eq] at h6
            show va_rf ((g j).map (zad E0)) = va_rf (some (zad E1 (zcourt j)))
            rw [h6.1, hE _ h6.2]; rfl
          · rw [if_neg h4] at h3
            by_cases h33 : t = 3
            · subst h33
              have h5 : H[zad E1 k]? = some (vp_cell (ztc E0 3) (n, .inr (.inl (fun _ => 0)))) := h1
              show H[zad E1 k]? = some (vp_cell (ztc E1 3) (n, .inr (.inl (fun _ => 0))))
              rw [h5, hT]
            · rw [if_neg h33] at h3
              have a1 : zArr E1 zM0 k t n = .inl (ztc E1 t, n, .inl (zI0 k)) := by
                unfold zArr
                split
                · exact absurd rfl h33
                · exact absurd rfl h4
                · rfl
              have a2 : yArr E0 t n f g = .inl (ztc E0 t, n, .inl f) := by
                unfold yArr
                split
                · exact absurd rfl h33
                · exact absurd rfl h4
                · rfl
              rw [a1]
              have h5 : va_at (zD E0) vwCl (zad E1 k, yArr E0 t n f g) H := h1
              rw [a2] at h5
              have h6 : H[zad E1 k]? = some (vp_cell (ztc E0 t) (n, .inl f)) := h5
              show H[zad E1 k]? = some (vp_cell (ztc E1 t) (n, .inl (zI0 k)))
              rw [h6, hT, vp_cell_i, vp_cell_i]
              congr 1
              refine arrV_ext fun j hj => ?_
              have h7 := List.all_eq_true.mp h3 j (List.mem_range.mpr hj)
              simp only [beq_iff_eq] at h7
              rw [h7]
theorem zStart_Dj {E0 E1 : zEv} (hb : zb E1 = zb E0) (ha : ∀ o, zad E0 o = zb E0 + o) (hE : ∀ r, r < 271 → zad E1 r = zad E0 (zp r)) : zDj E1 := by
  refine ⟨fun i j hi hj h => ?_, fun i hi => ?_⟩
  · rw [hE i hi, hE j hj, ha, ha] at h
    exact zp_inj hi hj (by omega)
  · rw [hb, hE i hi, ha]
    omega
