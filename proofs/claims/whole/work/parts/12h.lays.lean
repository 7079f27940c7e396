/-! ===== couples: the subsets laid ===== -/
section UNLIKELY
variable {E : zEv} {D : Nat} {px : String → zM → Prop} {M : zM} {K : zM → Prop} {f : zRow}
theorem cpF_0 : (cpF f 0).1 = 0 := by
  have e := CS_skip (unF f) 0 0 (kN f) 0 (fun j _ _ => Nat.zero_testBit j)
  rw [Nat.zero_add] at e
  show (CS (unF f) (kN f) 0 0).1 = 0
  rw [e]
  rfl
theorem cp_A (hk : okF f) {S : Nat} (h0 : 0 < S) (h : S < 2 ^ kN f) : CS (unF f) (kN f - lo S - 1) (lo S + 1) (S - 2 ^ lo S) = cpF f (S - 2 ^ lo S) := by
  obtain ⟨l1, l2, l3, l4, l5⟩ := lo_f h0 hk.k.2 h
  have k4 := hk.k.2
  refine cpF_in l4 (fun j hj => Bool.eq_false_iff.mpr (fun y => ?_))
  have := (sub_tb16 l1 (by omega) l2).mp y
  rw [l3 j (by omega)] at this
  exact absurd this.1 (by decide)
theorem cp_B (hk : okF f) {S p : Nat} (h0 : 0 < S) (h : S < 2 ^ kN f) (hp : S.testBit p = true) (hne : p ≠ lo S) (hpn : p < kN f) : CS (unF f) (kN f - lo S - 1) (lo S + 1) (S - 2 ^ lo S - 2 ^ p) = cpF f (S - 2 ^ lo S - 2 ^ p) := by
  obtain ⟨l1, l2, l3, l4, l5⟩ := lo_f h0 hk.k.2 h
  have k4 := hk.k.2
  have s1 : S - 2 ^ lo S < 16 := Nat.lt_of_le_of_lt (Nat.sub_le _ _) l1
  refine cpF_in l4 (fun j hj => Bool.eq_false_iff.mpr (fun y => ?_))
  have h1 := (sub_tb16 s1 (by omega) ((sub_tb16 l1 (by omega) l2).mpr ⟨hp, hne⟩)).mp y
  have h2 := (sub_tb16 l1 (by omega) l2).mp h1.1
  rw [l3 j (by omega)] at h2
  exact absurd h2.1 (by decide)
theorem zmax_m1 {a : Nat} (h : a < 2 ^ 30) : zmax (nI a) (-1) = nI a := if_neg (fun z => by
  have h1 : nI 0 ≤ nI a := nI_le (Nat.zero_le _) (by omega)
  rw [fa_le] at h1
  rw [fa_lt] at z
  have h2 : (nI 0).toInt = 0 := rfl
  have h3 : ((-1 : Int32)).toInt = -1 := by decide
  omega)
theorem s_X12_laysUnlikely {post : zM → Prop} (hf : M.1 1 = f) (hk : okF f) (hp : ∀ M', (∀ S, S < 2 ^ kN f → M'.1 16 S = nI (cpF f S).1) → (∀ o, o ≠ 16 → M'.1 o = M.1 o) → M'.2 = M.2 → post M') : zCv E jX12_laysUnlikely (D + 4) 0 [.ref 0] M post px := by
  have k4 := hk.k
  have k16 := two_k hk
  have p0 : 0 < 2 ^ kN f := Nat.two_pow_pos _
  have cl : ∀ S, (cpF f S).1 ≤ 20 := fun S => Nat.le_trans (lt_sum hk (kN f) 0 S) (by omega)
  refine e_X12_laysUnlikely (fun M1 e1 => ?_)
  refine zup_loop (fun S => 0 < S → ∀ M', (∀ S', S' < S → M'.1 16 S' = nI (cpF f S').1) → (∀ o, o ≠ 16 → M'.1 o = M.1 o) → M'.2 = M.2 → w_X12_laysUnlikely_9 E (D + 3) post px (nI S) M') (2 ^ kN f) (fun S hS ih h0 M' a1 a2 a3 => ?_) (fun h0 M' a1 a2 a3 => ?_) 1 p0 (by decide) M1 (fun S' hS' => ?_) (fun o ho => by rw [e1, zup_o ho]) (by rw [e1]; rfl)
  · have hm : M'.1 1 = f := by rw [a2 1 (by decide), hf]
    obtain ⟨l1, l2, l3, l4, l5⟩ := lo_f h0 k4.2 hS
    have pa : 0 < 2 ^ lo S := Nat.two_pow_pos _
    have sA : S - 2 ^ lo S < S := by omega
    have eW : M'.1 1 ((3 : Int32)).toNatClampNeg = nI (kN f) := by rw [hm]; exact k4.1
    refine t_X12_laysUnlikely_9 (e_X12_women ?_)
    rw [eW, all_cnt (by omega)]
    refine pk_le (2 ^ kN f) S (fun z => absurd z (by omega)) (fun _ => ?_)
    have eF := cpF_lo hk h0 hS
    generalize hc : CS (unF f) (kN f - lo S - 1) (lo S + 1) = c at *
    have cA1 : (opA c (lo S) S).1 = (cpF f (S - 2 ^ lo S)).1 := by
      show (c (S - 2 ^ lo S)).1 = _
      rw [← hc, cp_A hk h0 hS]
    have Lle : ∀ j, j ≤ kN f - lo S - 1 → (Lf c (unF f) (lo S) S j).1 ≤ 1000 := fun j _ => by
      induction j with
      | zero => show (opA c (lo S) S).1 ≤ 1000; rw [cA1]; exact Nat.le_trans (cl _) (by decide)
      | succ j ihj =>
        rw [Lf]
        by_cases d : S.testBit (lo S + 1 + j) = true
        · rw [if_pos d, btr_1]
          have q := ihj (by omega)
          have cB : (opB c (unF f) (lo S) S (lo S + 1 + j)).1 ≤ 1000 := by
            show unF f (lo S) (lo S + 1 + j) + (c (S - 2 ^ lo S - 2 ^ (lo S + 1 + j))).1 ≤ 1000
            rw [← hc, cp_B hk h0 hS d (by omega) (by omega)]
            have := cl (S - 2 ^ lo S - 2 ^ (lo S + 1 + j))
            have := un_le hk (a := lo S) (b := lo S + 1 + j)
            omega
          by_cases e : (Lf c (unF f) (lo S) S j).1 < (opB c (unF f) (lo S) S (lo S + 1 + j)).1
          · rw [if_pos e]; exact cB
          · rw [if_neg e]; exact q
        · rw [if_neg d]; exact ihj (by omega)
    refine t_X12_laysUnlikely_23 (e_X12_women ⟨fun z => absurd ((mI_le (s := kN f) (m := 0) (by omega) (by omega)).mp (by rw [eW] at z; exact z)) (by omega), fun _ => s_unl_n h0 l1 ?_⟩)
    rw [a1 _ sA, show zmax 0 (nI (cpF f (S - 2 ^ lo S)).1) = nI (cpF f (S - 2 ^ lo S)).1 by
      have := zmax_nI (a := 0) (b := (cpF f (S - 2 ^ lo S)).1) (by decide) (by have := cl (S - 2 ^ lo S); omega)
      rw [Nat.max_eq_right (Nat.zero_le _)] at this
      exact this, show (-1 : Int32) + 1 = nI 0 by decide]
    have key := zup_loop (fun p => w_X12_laysUnlikely_23 E (D + 3) post px (nI S) (nI (Lf c (unF f) (lo S) S (p - (lo S + 1))).1) (nI p) M') (kN f) (fun p hpn ihp => ?_) ?_ 0 (Nat.zero_le _)
    · rw [show 0 - (lo S + 1) = 0 by omega] at key
      rw [← cA1]
      exact key
    · have lv := Lle (p - (lo S + 1)) (by omega)
      refine t_X12_laysUnlikely_23 (e_X12_women (pk_le (kN f) p (fun z => absurd z (by omega)) (fun _ => s_unl_p hm hk h0 hS hpn (fun y1 y2 => ?_) (fun y => ?_)) eW))
      · have pg : lo S < p := Decidable.byContradiction (fun q => by
          rw [l3 p (by omega)] at y1
          cases y1)
        have sB : S - 2 ^ lo S - 2 ^ p < S := Nat.lt_of_le_of_lt (Nat.sub_le _ _) sA
        have cB1 : (opB c (unF f) (lo S) S p).1 = unF f (lo S) p + (cpF f (S - 2 ^ lo S - 2 ^ p)).1 := by
          show unF f (lo S) p + (c (S - 2 ^ lo S - 2 ^ p)).1 = _
          rw [← hc, cp_B hk h0 hS y1 y2 hpn]
        have u5 := un_le hk (a := lo S) (b := p)
        have c20 := cl (S - 2 ^ lo S - 2 ^ p)
        rw [a1 _ sB, nI_add, ← cB1, zmax_nI (by omega) (by omega), nI_1]
        have e1 : Lf c (unF f) (lo S) S (p + 1 - (lo S + 1)) = btr (Lf c (unF f) (lo S) S (p - (lo S + 1))) (opB c (unF f) (lo S) S p) := by
          rw [show p + 1 - (lo S + 1) = (p - (lo S + 1)) + 1 by omega, Lf, show lo S + 1 + (p - (lo S + 1)) = p by omega, if_pos y1]
        rw [e1, btr_1] at ihp
        have e2 : (if (Lf c (unF f) (lo S) S (p - (lo S + 1))).1 < (opB c (unF f) (lo S) S p).1 then (opB c (unF f) (lo S) S p).1 else (Lf c (unF f) (lo S) S (p - (lo S + 1))).1) = max (Lf c (unF f) (lo S) S (p - (lo S + 1))).1 (opB c (unF f) (lo S) S p).1 := by
          by_cases q : (Lf c (unF f) (lo S) S (p - (lo S + 1))).1 < (opB c (unF f) (lo S) S p).1
          · rw [if_pos q]; omega
          · rw [if_neg q]; omega
        rw [e2] at ihp
        exact ihp
      · rw [zmax_m1 (by omega), nI_1]
        have e1 : Lf c (unF f) (lo S) S (p + 1 - (lo S + 1)) = Lf c (unF f) (lo S) S (p - (lo S + 1)) := by
          by_cases q : p ≤ lo S
          · rw [show p + 1 - (lo S + 1) = 0 by omega, show p - (lo S + 1) = 0 by omega]
          · rw [show p + 1 - (lo S + 1) = (p - (lo S + 1)) + 1 by omega, Lf, show lo S + 1 + (p - (lo S + 1)) = p by omega, if_neg (fun z => y ⟨z, by omega⟩)]
        rw [e1] at ihp
        exact ihp
    · refine t_X12_laysUnlikely_23 (e_X12_women (pk_le (kN f) (kN f) (fun _ => ⟨pk_in S _ l1, fun M9 e9 => ?_⟩) (fun z => absurd z (by omega)) eW))
      rw [nI_clamp (by omega), show kN f - (lo S + 1) = kN f - lo S - 1 by omega, ← eF] at e9
      rw [nI_1]
      refine ih (by omega) M9 (fun S' hS' => ?_) (fun o ho => by rw [e9, zup_o ho]; exact a2 o ho) (by rw [e9, zup_L]; exact a3)
      by_cases d : S' = S
      · rw [d, e9, zup_s]
      · rw [e9, zup_n (Or.inr d)]; exact a1 S' (by omega)
  · have hm : M'.1 1 = f := by rw [a2 1 (by decide), hf]
    refine t_X12_laysUnlikely_9 (e_X12_women ?_)
    rw [show M'.1 1 ((3 : Int32)).toNatClampNeg = nI (kN f) by rw [hm]; exact k4.1, all_cnt (by omega)]
    exact pk_le (2 ^ kN f) (2 ^ kN f) (fun _ => hp M' a1 a2 a3) (fun z => absurd z (by omega))
  · rw [show S' = 0 by omega, e1, n0, zup_s, cpF_0]
    rfl
end UNLIKELY
