/-! ===== couples ===== -/
section OPCOUPLES
variable {E : zEv} {D : Nat} {px : String → zM → Prop} {M : zM} {K : zM → Prop} {f : zRow}
theorem m1_ne {a : Nat} (h : a < 2 ^ 30) : ¬ (-1 : Int32) = nI a := fun z => nI_m1 (by omega) z.symm
/-- the reference's way back from the subsets -/
theorem s_greedy {post : Int32 → zM → Prop} {x : Nat} (hf : M.1 1 = f) (hk : okF f) (h16 : ∀ S, S < 2 ^ kN f → M.1 16 S = nI (cpF f S).1) (hx : x < kN f) : ∀ S, S < 2 ^ kN f → S.testBit x = true → ∀ y3, post ((cpF f S).2 x) M → w_X12_couples_63 E (D + 3) post px (nI x) (nI S) y3 0 M := by
  have k4 := hk.k
  have k16 := two_k hk
  have cl : ∀ S, (cpF f S).1 ≤ 20 := fun S => Nat.le_trans (lt_sum hk (kN f) 0 S) (by omega)
  intro S
  induction S using Nat.strongRecOn with
  | ind S ih =>
    intro hS hxS y3 hp
    have h0 : 0 < S := Nat.pos_of_ne_zero (fun e => by rw [e, Nat.zero_testBit] at hxS; cases hxS)
    obtain ⟨l1, l2, l3, l4, l5⟩ := lo_f h0 k4.2 hS
    have pa : 0 < 2 ^ lo S := Nat.two_pow_pos _
    have sA : S - 2 ^ lo S < S := by omega
    have sA16 : S - 2 ^ lo S < 16 := Nat.lt_of_le_of_lt (Nat.sub_le _ _) l1
    have S1 : ∀ j, (S - 2 ^ lo S).testBit j = true ↔ S.testBit j = true ∧ j ≠ lo S := fun j => sub_tb16 l1 (by omega) l2
    have eF := cpF_lo hk h0 hS
    have eA := cp_A hk h0 hS
    have eB := fun p => cp_B hk (S := S) (p := p) h0 hS
    generalize hc : CS (unF f) (kN f - lo S - 1) (lo S + 1) = c at *
    have xl : lo S ≤ x := Decidable.byContradiction (fun q => by rw [l3 x (by omega)] at hxS; cases hxS)
    have go : ∀ {P Q : Prop} {a b : Int32}, (a = b → P) → (¬ a = b → Q) → (a = b → P) ∧ (¬ a = b → Q) := fun h1 h2 => ⟨h1, h2⟩
    have xe : nI (lo S) = nI x ↔ lo S = x := nI_eq (by omega) (by omega)
    refine t_X12_couples_63 ⟨fun z => absurd rfl z, fun _ => s_X12_firstOf h0 (by omega) ?_⟩
    have sel := Lf_sel c (unF f) (lo S) S (kN f - lo S - 1)
    rw [← eF] at sel
    -- nobody: she stands alone
    refine t_X12_couples_77 (s_unl_n h0 l1 ⟨pk_in S _ l1, ?_⟩)
    rw [nI_clamp (by omega), h16 S hS, h16 _ (by omega)]
    have cA1 : (opA c (lo S) S).1 = (cpF f (S - 2 ^ lo S)).1 := by
      show (c (S - 2 ^ lo S)).1 = _
      rw [eA]
    have clA := cl (S - 2 ^ lo S)
    have clS := cl S
    refine pk_eq (cpF f (S - 2 ^ lo S)).1 (cpF f S).1 (fun z => ?_) (fun z => ?_)
    · have es : cpF f S = opA c (lo S) S := by
        rcases sel with e | ⟨i, -, -, -, hlt, -⟩
        · exact e
        · rw [cA1] at hlt; omega
      refine ⟨fun y => t_X12_couples_111 (t_X12_couples_116 ⟨fun q => absurd y q, fun _ => t_X12_couples_131 ⟨fun q => absurd rfl q, fun _ => t_X12_couples_159 (t_X12_couples_63 (z1A ?_))⟩⟩), fun y => ⟨fun _ => t_X12_couples_116 ⟨fun _ => t_X12_couples_131 ⟨fun q => absurd rfl q, fun _ => t_X12_couples_159 ?_⟩, fun q => absurd q y⟩, fun q => absurd q (m1_ne (by omega))⟩⟩
      · have ex := xe.mp y
        have : (cpF f S).2 x = -1 := by
          rw [es]
          show tU (c (S - 2 ^ lo S)).2 (lo S) (-1) x = -1
          unfold tU
          rw [if_pos ex.symm]
        rw [this] at hp
        exact hp
      · have nx : x ≠ lo S := fun e => y (xe.mpr e.symm)
        rw [sub_bit (by omega) (by omega) l2]
        refine ih (S - 2 ^ lo S) sA (by omega) ((S1 x).mpr ⟨hxS, nx⟩) _ ?_
        have : (cpF f S).2 x = (cpF f (S - 2 ^ lo S)).2 x := by
          rw [es, ← eA]
          show tU (c (S - 2 ^ lo S)).2 (lo S) (-1) x = _
          unfold tU
          rw [if_neg nx]
        rw [← this]
        exact hp
    · -- the first who comes up to it
      rcases sel with e | ⟨i, hi, hb, es, hlt, hmin⟩
      · exact absurd (by rw [e, cA1]) z
      rw [show (-1 : Int32) + 1 = nI 0 by decide]
      have cl20 := cl S
      refine zup_loop (fun p => p ≤ lo S + 1 + i → w_X12_couples_77 E (D + 3) post px (nI x) (nI S) (nI (lo S)) (nI p) M) (lo S + 1 + i) (fun p hpi ihp _ => ?_) (fun _ => ?_) 0 (Nat.zero_le _) (Nat.zero_le _)
      · refine t_X12_couples_77 (s_unl_p hf hk h0 hS (by omega) (fun y1 y2 => ⟨pk_in S _ l1, ?_⟩) (fun _ => ⟨pk_in S _ l1, ?_⟩))
        · have pg : lo S < p := Decidable.byContradiction (fun q => by rw [l3 p (by omega)] at y1; cases y1)
          have m1 := hmin (p - (lo S + 1)) (by omega) (by rw [show lo S + 1 + (p - (lo S + 1)) = p by omega]; exact y1)
          rw [show lo S + 1 + (p - (lo S + 1)) = p by omega] at m1
          have cB1 : (opB c (unF f) (lo S) S p).1 = unF f (lo S) p + (cpF f (S - 2 ^ lo S - 2 ^ p)).1 := by
            show unF f (lo S) p + (c (S - 2 ^ lo S - 2 ^ p)).1 = _
            rw [eB p y1 y2 (by omega)]
          rw [nI_clamp (by omega), h16 S hS, h16 _ (Nat.lt_of_le_of_lt (Nat.sub_le _ _) (by omega)), nI_add, ← cB1]
          refine pk_eq (opB c (unF f) (lo S) S p).1 (cpF f S).1 (fun q => absurd q (by omega)) (fun _ => ?_)
          rw [nI_1]
          exact ihp (by omega)
        · rw [nI_clamp (by omega), h16 S hS]
          refine ⟨fun q => absurd q (m1_ne (by omega)), fun _ => ?_⟩
          rw [nI_1]
          exact ihp (by omega)
      · generalize ho : lo S + 1 + i = o at *
        have oe : nI o = nI x ↔ o = x := nI_eq (by omega) (by omega)
        refine t_X12_couples_77 (s_unl_p hf hk h0 hS (by omega) (fun y1 y2 => ⟨pk_in S _ l1, ?_⟩) (fun q => absurd ⟨hb, by omega⟩ q))
        have cB1 : (opB c (unF f) (lo S) S o).1 = unF f (lo S) o + (cpF f (S - 2 ^ lo S - 2 ^ o)).1 := by
          show unF f (lo S) o + (c (S - 2 ^ lo S - 2 ^ o)).1 = _
          rw [eB o y1 y2 (by omega)]
        rw [nI_clamp (by omega), h16 S hS, h16 _ (Nat.lt_of_le_of_lt (Nat.sub_le _ _) (by omega)), nI_add, ← cB1, ← es]
        refine ⟨fun _ => ?_, fun q => absurd rfl q⟩
        have val : (cpF f S).2 x = if x = o then nI (lo S) else if x = lo S then nI o else (cpF f (S - 2 ^ lo S - 2 ^ o)).2 x := by
          rw [es, ← eB o y1 y2 (by omega)]
          rfl
        rw [val] at hp
        have on : ¬ nI o = -1 := nI_m1 (by omega)
        refine ⟨fun y => t_X12_couples_111 (t_X12_couples_116 ⟨fun q => absurd y q, fun _ => t_X12_couples_131 ⟨fun _ => t_X12_couples_159 (t_X12_couples_63 (z1A ?_)), fun q => absurd q on⟩⟩), fun y => ⟨fun y' => t_X12_couples_116 ⟨fun _ => t_X12_couples_131 ⟨fun _ => t_X12_couples_159 ?_, fun q => absurd q on⟩, fun q => absurd q y⟩, fun y' => t_X12_couples_111 (t_X12_couples_116 ⟨fun _ => t_X12_couples_131 ⟨fun _ => t_X12_couples_159 (t_X12_couples_63 (z1A ?_)), fun q => absurd q on⟩, fun q => absurd q y⟩)⟩⟩
        · have ex := xe.mp y
          rw [if_neg (by omega), if_pos ex.symm] at hp
          exact hp
        · have n1 : x ≠ lo S := fun e => y (xe.mpr e.symm)
          have n2 : x ≠ o := fun e => y' (oe.mpr e.symm)
          rw [if_neg n2, if_neg n1] at hp
          have s2 : (S - 2 ^ lo S).testBit o = true := (S1 o).mpr ⟨y1, y2⟩
          rw [sub_bit (S := S) (by omega) (by omega) l2, sub_bit (S := S - 2 ^ lo S) (by omega) (by omega) s2]
          exact ih (S - 2 ^ lo S - 2 ^ o) (Nat.lt_of_le_of_lt (Nat.sub_le _ _) sA) (Nat.lt_of_le_of_lt (Nat.sub_le _ _) (by omega)) ((sub_tb16 sA16 (by omega) s2).mpr ⟨(S1 x).mpr ⟨hxS, n1⟩, n2⟩) _ hp
        · rw [if_pos (oe.mp y').symm] at hp
          exact hp
end OPCOUPLES
