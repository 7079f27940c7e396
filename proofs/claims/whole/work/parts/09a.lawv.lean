/-! ===== the law evaluated: facts, a stack of values ===== -/
def factF (f : zRow) (s n : Int32) (w : Nat) (x : Int32) : Int32 :=
  if s = 0 then nI w else if s = 1 then f (29 + 5 * w + 0) else if s = 2 then f (29 + 5 * w + 1) else if s = 3 then f (29 + 5 * w + 2) else if s = 4 then f (29 + 5 * w + 3) else if s = 5 then f 7 else if s = 6 then x else if s = 7 then f (29 + 5 * w + 4) else if s = 8 then (if x ≤ 0 then 0 else 1) else if s = 9 then (if f (29 + 5 * w + 3) < 50 then 0 else 1) else if s = 10 then (if f (29 + 5 * w + 4) = 0 ∨ f (29 + 5 * w + 4) = f 0 - 1 then 1 else 0) else n
def opV (s a b : Int32) : Int32 := if s = 12 then a + b else if s = 13 then (if b ≤ a then 0 else 1) else if s = 14 then (if a ≤ b then 0 else 1) else if s = 16 then (if a + b = 2 then 1 else 0) else (if a + b ≤ 0 then 0 else 1)
def stepV (f : zRow) (w : Nat) (x s n : Int32) (st : List Int32) : List Int32 :=
  if s < 12 then factF f s n w x :: st else match st with
    | [] => []
    | b :: st1 => if s = 15 then (1 - b) :: st1 else match st1 with
      | [] => []
      | a :: st2 => opV s a b :: st2
def runV (f : zRow) (w : Nat) (x : Int32) : Nat → Nat → List Int32 → List Int32
  | 0, _, st => st
  | n + 1, i, st => runV f w x n (i + 1) (stepV f w x (f (421 + 2 * i)) (f (421 + 2 * i + 1)) st)
def stk (v : Nat → Int32) : List Int32 → Prop
  | [] => True
  | a :: r => v r.length = a ∧ stk v r
def kd : List Bool → List Int32 → Prop
  | [], [] => True
  | k :: ks, a :: r => (k = true → a = 0 ∨ a = 1) ∧ kd ks r
  | _, _ => False
theorem kd_len : ∀ {ks : List Bool} {st : List Int32}, kd ks st → ks.length = st.length
  | [], [], _ => rfl
  | _ :: ks, _ :: st, h => by
    obtain ⟨h1, h2⟩ := h
    rw [List.length_cons, List.length_cons, kd_len h2]
  | [], _ :: _, h => h.elim
  | _ :: _, [], h => h.elim
theorem stk_upd {v : Nat → Int32} {j : Nat} {a : Int32} : ∀ {r : List Int32}, r.length ≤ j → stk v r → stk (upd v j a) r
  | [], _, _ => trivial
  | b :: r, h, hs => by
    obtain ⟨h1, h2⟩ := hs
    have hl : r.length + 1 ≤ j := by rw [List.length_cons] at h; exact h
    exact ⟨by rw [pk_un (by omega)]; exact h1, stk_upd (by omega) h2⟩
theorem stk_push {v : Nat → Int32} {a : Int32} {r : List Int32} (hs : stk v r) : stk (upd v r.length a) (a :: r) := ⟨pk_us, stk_upd (Nat.le_refl _) hs⟩
theorem i17 {s : Int32} (h : isN s 17) : ∃ n : Fin 18, s = nI n.val := by
  obtain ⟨n, h1, h2⟩ := h
  exact ⟨⟨n, by omega⟩, h2⟩
section LAWV
variable {f : zRow} {w : Nat} {x : Int32}
theorem fact01 {s n : Int32} (h : s = 8 ∨ s = 9 ∨ s = 10) : factF f s n w x = 0 ∨ factF f s n w x = 1 := by
  rcases h with rfl | rfl | rfl
  · have e : factF f 8 n w x = (if x ≤ 0 then 0 else 1) := rfl
    rw [e]
    by_cases c : x ≤ 0
    · rw [if_pos c]; exact Or.inl rfl
    · rw [if_neg c]; exact Or.inr rfl
  · have e : factF f 9 n w x = (if f (29 + 5 * w + 3) < 50 then 0 else 1) := rfl
    rw [e]
    by_cases c : f (29 + 5 * w + 3) < 50
    · rw [if_pos c]; exact Or.inl rfl
    · rw [if_neg c]; exact Or.inr rfl
  · have e : factF f 10 n w x = (if f (29 + 5 * w + 4) = 0 ∨ f (29 + 5 * w + 4) = f 0 - 1 then 1 else 0) := rfl
    rw [e]
    by_cases c : f (29 + 5 * w + 4) = 0 ∨ f (29 + 5 * w + 4) = f 0 - 1
    · rw [if_pos c]; exact Or.inr rfl
    · rw [if_neg c]; exact Or.inl rfl
theorem op01 {s a b : Int32} (h : s ≠ 12) : opV s a b = 0 ∨ opV s a b = 1 := by
  unfold opV
  rw [if_neg h]
  by_cases c1 : s = 13
  · rw [if_pos c1]
    by_cases c : b ≤ a
    · rw [if_pos c]; exact Or.inl rfl
    · rw [if_neg c]; exact Or.inr rfl
  · rw [if_neg c1]
    by_cases c2 : s = 14
    · rw [if_pos c2]
      by_cases c : a ≤ b
      · rw [if_pos c]; exact Or.inl rfl
      · rw [if_neg c]; exact Or.inr rfl
    · rw [if_neg c2]
      by_cases c3 : s = 16
      · rw [if_pos c3]
        by_cases c : a + b = 2
        · rw [if_pos c]; exact Or.inr rfl
        · rw [if_neg c]; exact Or.inl rfl
      · rw [if_neg c3]
        by_cases c : a + b ≤ 0
        · rw [if_pos c]; exact Or.inl rfl
        · rw [if_neg c]; exact Or.inr rfl
theorem kd_step {s n : Int32} {ks ks' : List Bool} {st : List Int32} (hk : kd ks st) (h : stepK s ks = some ks') : kd ks' (stepV f w x s n st) := by
  unfold stepK at h
  by_cases c1 : s = 8 ∨ s = 9 ∨ s = 10
  · rw [if_pos c1] at h
    cases h
    have c2 : s < 12 := by rcases c1 with rfl | rfl | rfl <;> decide
    unfold stepV
    rw [if_pos c2]
    exact ⟨fun _ => fact01 c1, hk⟩
  · rw [if_neg c1] at h
    by_cases c2 : s < 12
    · rw [if_pos c2] at h
      cases h
      unfold stepV
      rw [if_pos c2]
      exact ⟨(fun z => Bool.noConfusion z), hk⟩
    · rw [if_neg c2] at h
      unfold stepV
      rw [if_neg c2]
      cases ks with
      | nil => cases h
      | cons k ks1 =>
        cases st with
        | nil => exact hk.elim
        | cons b st1 =>
          obtain ⟨k1, k2⟩ := hk
          dsimp only at h ⊢
          by_cases c3 : s = 15
          · rw [if_pos c3] at h ⊢
            by_cases c4 : k = true
            · rw [if_pos c4] at h
              cases h
              refine ⟨fun _ => ?_, k2⟩
              rcases k1 c4 with rfl | rfl
              · exact Or.inr rfl
              · exact Or.inl rfl
            · rw [if_neg c4] at h
              cases h
          · rw [if_neg c3] at h ⊢
            cases ks1 with
            | nil => cases h
            | cons k' ks2 =>
              cases st1 with
              | nil => exact k2.elim
              | cons a st2 =>
                obtain ⟨k3, k4⟩ := k2
                dsimp only at h ⊢
                by_cases c5 : s = 12
                · rw [if_pos c5] at h
                  by_cases c6 : k = false ∧ k' = false
                  · rw [if_pos c6] at h
                    cases h
                    exact ⟨(fun z => Bool.noConfusion z), k4⟩
                  · rw [if_neg c6] at h
                    cases h
                · rw [if_neg c5] at h
                  by_cases c7 : s = 13 ∨ s = 14
                  · rw [if_pos c7] at h
                    by_cases c6 : k = false ∧ k' = false
                    · rw [if_pos c6] at h
                      cases h
                      exact ⟨fun _ => op01 c5, k4⟩
                    · rw [if_neg c6] at h
                      cases h
                  · rw [if_neg c7] at h
                    by_cases c6 : k = true ∧ k' = true
                    · rw [if_pos c6] at h
                      cases h
                      exact ⟨fun _ => op01 c5, k4⟩
                    · rw [if_neg c6] at h
                      cases h
/-- where a step of two is taken there are two, and truths where truths are wanted -/
theorem kd_two {s : Int32} {ks ks' : List Bool} {st : List Int32} (hk : kd ks st) (h : stepK s ks = some ks') (h1 : ¬ s < 12) (h2 : s ≠ 15) : ∃ b a r, st = b :: a :: r ∧ (s ≠ 12 → s ≠ 13 → s ≠ 14 → (a = 0 ∨ a = 1) ∧ (b = 0 ∨ b = 1)) := by
  unfold stepK at h
  have c1 : ¬ (s = 8 ∨ s = 9 ∨ s = 10) := by rintro (rfl | rfl | rfl) <;> exact h1 (by decide)
  rw [if_neg c1, if_neg h1] at h
  cases ks with
  | nil => cases h
  | cons k ks1 =>
    cases st with
    | nil => exact hk.elim
    | cons b st1 =>
      obtain ⟨k1, k2⟩ := hk
      dsimp only at h
      rw [if_neg h2] at h
      cases ks1 with
      | nil => cases h
      | cons k' ks2 =>
        cases st1 with
        | nil => exact k2.elim
        | cons a st2 =>
          obtain ⟨k3, k4⟩ := k2
          dsimp only at h
          refine ⟨b, a, st2, rfl, fun c5 c8 c9 => ?_⟩
          rw [if_neg c5, if_neg (fun z => z.elim c8 c9)] at h
          by_cases c6 : k = true ∧ k' = true
          · exact ⟨k3 c6.2, k1 c6.1⟩
          · rw [if_neg c6] at h
            cases h
theorem kd_one {s : Int32} {ks ks' : List Bool} {st : List Int32} (hk : kd ks st) (h : stepK s ks = some ks') (h2 : s = 15) : ∃ b r, st = b :: r := by
  subst h2
  cases st with
  | cons b r => exact ⟨b, r, rfl⟩
  | nil =>
    cases ks with
    | nil => cases h
    | cons k ks1 => exact hk.elim
end LAWV
