/-! ===== Z: stores ===== -/
/-- a value of one word stored at i -/
def zst1 : List Value → Nat → Value → List Value
  | [], _, _ => []
  | _ :: ws, 0, v => v :: ws
  | w :: ws, i + 1, v => (if i = 0 ∧ w.category = 2 then zU else w) :: zst1 ws i v
/-- a value of two words stored at i -/
def zst2 : List Value → Nat → Value → List Value
  | [], _, _ => []
  | _ :: [], 0, v => [v]
  | _ :: _ :: ws, 0, v => v :: zU :: ws
  | w :: ws, i + 1, v => (if i = 0 ∧ w.category = 2 then zU else w) :: zst2 ws i v
theorem zst1_len : ∀ (ls : List Value) (i : Nat) (v : Value), (zst1 ls i v).length = ls.length := by
  intro ls
  induction ls with
  | nil => intro i v; rfl
  | cons w ws ih => intro i v; cases i with
    | zero => rfl
    | succ i => simp [zst1, ih]
theorem zst1_get : ∀ (ls : List Value) (i j : Nat) (v x : Value), (zst1 ls i v)[j]? = some x → x ≠ zU → (j = i ∧ x = v) ∨ (j ≠ i ∧ ls[j]? = some x ∧ ¬ (j + 1 = i ∧ x.category = 2)) := by
  intro ls
  induction ls with
  | nil => intro i j v x h; simp [zst1] at h
  | cons w ws ih =>
    intro i j v x h hx
    cases i with
    | zero =>
      cases j with
      | zero => simp [zst1] at h; exact Or.inl ⟨rfl, h.symm⟩
      | succ j => simp [zst1] at h; exact Or.inr ⟨by simp, by simpa using h, by simp⟩
    | succ i =>
      cases j with
      | zero =>
        simp only [zst1, List.getElem?_cons_zero, Option.some.injEq] at h
        by_cases hc : i = 0 ∧ w.category = 2
        · rw [if_pos hc] at h; exact absurd h.symm hx
        · rw [if_neg hc] at h
          subst h
          refine Or.inr ⟨by simp, by simp, fun z => hc ⟨by omega, z.2⟩⟩
      | succ j =>
        simp only [zst1, List.getElem?_cons_succ] at h
        rcases ih i j v x h hx with ⟨h1, h2⟩ | ⟨h1, h2, h3⟩
        · exact Or.inl ⟨by omega, h2⟩
        · exact Or.inr ⟨by omega, by simpa using h2, fun z => h3 ⟨by omega, z.2⟩⟩
theorem zst2_len : ∀ (ls : List Value) (i : Nat) (v : Value), i + 1 < ls.length → (zst2 ls i v).length = ls.length := by
  intro ls
  induction ls with
  | nil => intro i v h; simp at h
  | cons w ws ih => intro i v h; cases i with
    | zero => cases ws with
      | nil => simp at h
      | cons a b => rfl
    | succ i => simp only [zst2, List.length_cons]; rw [ih i v (by simp at h; omega)]
theorem zst2_get : ∀ (ls : List Value) (i j : Nat) (v x : Value), i + 1 < ls.length → (zst2 ls i v)[j]? = some x → x ≠ zU → (j = i ∧ x = v) ∨ (j ≠ i ∧ j ≠ i + 1 ∧ ls[j]? = some x ∧ ¬ (j + 1 = i ∧ x.category = 2)) := by
  intro ls
  induction ls with
  | nil => intro i j v x hl h; simp at hl
  | cons w ws ih =>
    intro i j v x hl h hx
    cases i with
    | zero =>
      cases ws with
      | nil => simp at hl
      | cons a b =>
        match j with
        | 0 => simp [zst2] at h; exact Or.inl ⟨rfl, h.symm⟩
        | 1 => simp [zst2] at h; exact absurd h.symm hx
        | j + 2 => simp [zst2] at h; exact Or.inr ⟨by omega, by omega, by simpa using h, by simp⟩
    | succ i =>
      cases j with
      | zero =>
        simp only [zst2, List.getElem?_cons_zero, Option.some.injEq] at h
        by_cases hc : i = 0 ∧ w.category = 2
        · rw [if_pos hc] at h; exact absurd h.symm hx
        · rw [if_neg hc] at h
          subst h
          refine Or.inr ⟨by simp, by simp, by simp, fun z => hc ⟨by omega, z.2⟩⟩
      | succ j =>
        simp only [zst2, List.getElem?_cons_succ] at h
        rcases ih i j v x (by simp at hl; omega) h hx with ⟨h1, h2⟩ | ⟨h1, h2, h3, h4⟩
        · exact Or.inl ⟨by omega, h2⟩
        · exact Or.inr ⟨by omega, by omega, by simpa using h3, fun z => h4 ⟨by omega, z.2⟩⟩
theorem zL_one {E : zEv} {nL : Nat} {Ls : Array Slot} {ls : List Value} (h : zL E nL Ls ls) {j : Nat} {x : Value} (hj : ls[j]? = some x) (hx : x ≠ zU) : lv_has Ls nL [(j, zV E x)] :=
  ⟨h.1, h.2.2.1, fun q hq => by rw [List.mem_singleton.mp hq]; exact h.2.2.2 j x hj hx⟩
theorem zL_nil {E : zEv} {nL : Nat} {Ls : Array Slot} {ls : List Value} (h : zL E nL Ls ls) : lv_has Ls nL [] := ⟨h.1, h.2.2.1, fun q hq => by cases hq⟩
theorem zL_st1 {E : zEv} {nL : Nat} {Ls Ls' : Array Slot} {ls : List Value} {i : Nat} {v : Value} (h : zL E nL Ls ls) (hi : i < nL) (hc : v.category = 1) (hs : storeLocals Ls i (zV E v) = some Ls') : zL E nL Ls' (zst1 ls i v) := by
  have hc' : (zV E v).category = 1 := by rw [zV_cat]; exact hc
  obtain ⟨L0, e0, h0⟩ := lv_store1 (zL_nil h) hi hc'
  cases Option.some.inj (hs.symm.trans e0)
  refine ⟨h0.1, by rw [zst1_len]; exact h.2.1, h0.2.1, fun j x hj hx => ?_⟩
  rcases zst1_get ls i j v x hj hx with ⟨rfl, rfl⟩ | ⟨h1, h2, h3⟩
  · exact h0.2.2 (j, zV E x) (List.mem_cons_self)
  · obtain ⟨L1, e1, g1⟩ := lv_store1 (zL_one h h2 hx) hi hc'
    cases Option.some.inj (hs.symm.trans e1)
    refine g1.2.2 (j, zV E x) (List.mem_cons_of_mem _ ?_)
    rw [List.mem_filter]
    refine ⟨List.mem_singleton.mpr rfl, ?_⟩
    simp only [Bool.and_eq_true, Bool.not_eq_true', beq_eq_false_iff_ne, Bool.and_eq_false_iff]
    refine ⟨h1, ?_⟩
    by_cases hh : j + 1 = i
    · exact Or.inr (by rw [zV_cat]; exact fun z => h3 ⟨hh, z⟩)
    · exact Or.inl hh
theorem zL_st2 {E : zEv} {nL : Nat} {Ls Ls' : Array Slot} {ls : List Value} {i : Nat} {v : Value} (h : zL E nL Ls ls) (hi : i + 1 < nL) (hc : v.category = 2) (hs : storeLocals Ls i (zV E v) = some Ls') : zL E nL Ls' (zst2 ls i v) := by
  have hc' : (zV E v).category = 2 := by rw [zV_cat]; exact hc
  have hlen : i + 1 < ls.length := by rw [h.2.1]; exact hi
  obtain ⟨L0, e0, h0⟩ := lv_store2 (zL_nil h) hi hc'
  cases Option.some.inj (hs.symm.trans e0)
  refine ⟨h0.1, by rw [zst2_len _ _ _ hlen]; exact h.2.1, h0.2.1, fun j x hj hx => ?_⟩
  rcases zst2_get ls i j v x hlen hj hx with ⟨rfl, rfl⟩ | ⟨h1, h2, h3, h4⟩
  · exact h0.2.2 (j, zV E x) (List.mem_cons_self)
  · obtain ⟨L1, e1, g1⟩ := lv_store2 (zL_one h h3 hx) hi hc'
    cases Option.some.inj (hs.symm.trans e1)
    refine g1.2.2 (j, zV E x) (List.mem_cons_of_mem _ ?_)
    rw [List.mem_filter]
    refine ⟨List.mem_singleton.mpr rfl, ?_⟩
    simp only [Bool.and_eq_true, Bool.not_eq_true', beq_eq_false_iff_ne, Bool.and_eq_false_iff]
    refine ⟨h1, h2, ?_⟩
    by_cases hh : j + 1 = i
    · exact Or.inr (by rw [zV_cat]; exact fun z => h4 ⟨hh, z⟩)
    · exact Or.inl hh
