theorem e_X1_fallsBy {E : zEv} {D : Nat} {post : Int32 → zM → Prop} {px : String → zM → Prop} {M : zM} {c : Nat} {x2 : Int32} (hc : zIsC c) (h : zCi E jX6_sum D 0 [.ref 36, .int (1 : Int32), .ref c, .int x2, .int (0 : Int32)] M (fun r3 M1 => post (((10 : Int32) - (M.1 c 11)) + r3) M1) px) : zCi E jX1_fallsBy (D + 1) 0 [.ref 43, .ref c, .int x2] M post px := by
  refine z_meth (by decide) (Nat.le_of_ble_eq_true rfl) ?_
  show Z E jX1_fallsBy (D + 1) 0 (zQi post px) 0 0 [.ref 43, .ref c, .int x2] [] M
  refine z_bipush (v := (10 : Int32)) dX1_fallsBy_0 rfl ?_
  refine z_aload_n dX1_fallsBy_2 rfl ?_
  refine z_getI dX1_fallsBy_3 zg_X1_31 (zsC_0 hc) rfl ?_
  refine z_isub dX1_fallsBy_6 ?_
  refine z_aload_n dX1_fallsBy_7 rfl ?_
  refine z_getR dX1_fallsBy_8 zg_X1_12 zs_43 rfl ?_
  refine z_iconst (v := (1 : Int32)) dX1_fallsBy_11 rfl ?_
  refine z_aload_n dX1_fallsBy_12 rfl ?_
  refine z_iload_n dX1_fallsBy_13 rfl ?_
  refine z_iconst (v := (0 : Int32)) dX1_fallsBy_14 rfl ?_
  refine z_callVi (As := [.int (1 : Int32), .ref c, .int x2, .int (0 : Int32)]) (st := [.int ((10 : Int32) - (M.1 c 11))]) dX1_fallsBy_15 zi_X1_37 rfl rfl zs_36 rfl rfl (Nat.le_of_ble_eq_true rfl) (by decide) (fun _ _ hx => hx) h ?_
  intro r3 M1 h2
  refine z_iadd dX1_fallsBy_18 ?_
  exact z_iret dX1_fallsBy_19 rfl rfl (by decide) h2
def w_X1_fall_7 (E : zEv) (D : Nat) (post : zM → Prop) (px : String → zM → Prop) (c : Nat) (y3 : Int32) (M : zM) : Prop := Z E jX1_fall (D + 1) 0 (zQv post px) 7 0 [.ref 43, .ref c, .ref (c + 1), .int y3] [] M
theorem e_X1_fall {E : zEv} {D : Nat} {post : zM → Prop} {px : String → zM → Prop} {M : zM} {c : Nat} (hc : zIsC c) (h : w_X1_fall_7 E D post px c (0 : Int32) M) : zCv E jX1_fall (D + 1) 0 [.ref 43, .ref c] M post px := by
  refine z_meth (by decide) (Nat.le_of_ble_eq_true rfl) ?_
  show Z E jX1_fall (D + 1) 0 (zQv post px) 0 0 [.ref 43, .ref c, zU, zU] [] M
  refine z_aload_n dX1_fall_0 rfl ?_
  refine z_getR dX1_fall_1 zg_X1_41 (zsC_0 hc) rfl ?_
  refine z_astore_n dX1_fall_4 (by decide) (ls' := [.ref 43, .ref c, .ref (c + 1), zU]) rfl ?_
  refine z_iconst (v := (0 : Int32)) dX1_fall_5 rfl ?_
  refine z_istore_n dX1_fall_6 (by decide) (ls' := [.ref 43, .ref c, .ref (c + 1), .int (0 : Int32)]) rfl ?_
  exact h
theorem t_X1_fall_7 {E : zEv} {D : Nat} {post : zM → Prop} {px : String → zM → Prop} {M : zM} {c : Nat} (hc : zIsC c) {y3 : Int32} (h : (((M.1 (c + 1) 6) ≤ y3 → post M) ∧ (¬ (M.1 (c + 1) 6) ≤ y3 → vp_in y3 5 ∧ zCi E jX1_fallsBy D 0 [.ref 43, .ref c, .int y3] M (fun r8 M6 => vp_in y3 5 ∧ ∀ M11 : zM, M11 = zup M6 (c + 5) (y3).toNatClampNeg (zmax (0 : Int32) ((M.1 (c + 5) (y3).toNatClampNeg) - r8)) → w_X1_fall_7 E D post px c (y3 + (1 : Int32)) M11) px))) : w_X1_fall_7 E D post px c y3 M := by
  show Z E jX1_fall (D + 1) 0 (zQv post px) 7 0 [.ref 43, .ref c, .ref (c + 1), .int y3] [] M
  refine z_iload_n dX1_fall_7 rfl ?_
  refine z_aload_n dX1_fall_8 rfl ?_
  refine z_getI dX1_fall_9 zg_X1_45 (zsC_1 hc) rfl ?_
  refine z_icmp_ge (tgt := 44) dX1_fall_12 (by decide) (fun g1 => ?_) (fun g1 => ?_)
  · have h2 := h.1 g1
    exact z_vret dX1_fall_44 rfl (by decide) h2
  · have h3 := h.2 g1
    refine z_aload_n dX1_fall_15 rfl ?_
    refine z_getR dX1_fall_16 zg_X1_50 (zsC_1 hc) rfl ?_
    refine z_iload_n dX1_fall_19 rfl ?_
    refine z_iconst (v := (0 : Int32)) dX1_fall_20 rfl ?_
    refine z_aload_n dX1_fall_21 rfl ?_
    refine z_getR dX1_fall_22 zg_X1_50 (zsC_1 hc) rfl ?_
    refine z_iload_n dX1_fall_25 rfl ?_
    obtain ⟨g5, h4⟩ := h3
    refine z_iald dX1_fall_26 (zsC_5 hc) g5 ?_
    refine z_aload_n dX1_fall_27 rfl ?_
    refine z_aload_n dX1_fall_28 rfl ?_
    refine z_iload_n dX1_fall_29 rfl ?_
    refine z_callVi (As := [.ref c, .int y3]) (st := [.int (M.1 (c + 5) (y3).toNatClampNeg), .int (0 : Int32), .int y3, .ref (c + 5)]) dX1_fall_30 zi_X1_53 rfl rfl zs_43 rfl rfl (Nat.le_of_ble_eq_true rfl) (by decide) (fun _ _ hx => hx) h4 ?_
    intro r8 M6 h7
    refine z_isub dX1_fall_33 ?_
    refine z_max dX1_fall_34 zm_X1_57 (Nat.le_of_ble_eq_true rfl) (by decide) ?_
    obtain ⟨g10, h9⟩ := h7
    refine z_iast dX1_fall_37 (zsC_5 hc) g10 ?_
    generalize hhM11 : zup M6 (c + 5) (y3).toNatClampNeg (zmax (0 : Int32) ((M.1 (c + 5) (y3).toNatClampNeg) - r8)) = M11
    have h12 := h9 M11 hhM11.symm
    refine z_iinc dX1_fall_38 rfl (by decide) (ls' := [.ref 43, .ref c, .ref (c + 1), .int (y3 + (1 : Int32))]) rfl ?_
    refine z_goto (tgt := 7) dX1_fall_41 (by decide) ?_
    exact h12
def w_X1_wouldBePale_4 (E : zEv) (D : Nat) (post : Int32 → zM → Prop) (px : String → zM → Prop) (c : Nat) (y2 : Int32) (y3 : Int32) (M : zM) : Prop := Z E jX1_wouldBePale (D + 1) 0 (zQi post px) 4 0 [.ref 43, .ref c, .int y2, .int y3] [] M
def w_X1_wouldBePale_36 (E : zEv) (D : Nat) (post : Int32 → zM → Prop) (px : String → zM → Prop) (c : Nat) (y2 : Int32) (y3 : Int32) (M : zM) : Prop := Z E jX1_wouldBePale (D + 1) 0 (zQi post px) 36 0 [.ref 43, .ref c, .int y2, .int y3] [] M
theorem e_X1_wouldBePale {E : zEv} {D : Nat} {post : Int32 → zM → Prop} {px : String → zM → Prop} {M : zM} {c : Nat} (hc : zIsC c) (h : w_X1_wouldBePale_4 E D post px c (0 : Int32) (0 : Int32) M) : zCi E jX1_wouldBePale (D + 1) 0 [.ref 43, .ref c] M post px := by
  refine z_meth (by decide) (Nat.le_of_ble_eq_true rfl) ?_
  show Z E jX1_wouldBePale (D + 1) 0 (zQi post px) 0 0 [.ref 43, .ref c, zU, zU] [] M
  refine z_iconst (v := (0 : Int32)) dX1_wouldBePale_0 rfl ?_
  refine z_istore_n dX1_wouldBePale_1 (by decide) (ls' := [.ref 43, .ref c, .int (0 : Int32), zU]) rfl ?_
  refine z_iconst (v := (0 : Int32)) dX1_wouldBePale_2 rfl ?_
  refine z_istore_n dX1_wouldBePale_3 (by decide) (ls' := [.ref 43, .ref c, .int (0 : Int32), .int (0 : Int32)]) rfl ?_
  exact h
theorem t_X1_wouldBePale_4 {E : zEv} {D : Nat} {post : Int32 → zM → Prop} {px : String → zM → Prop} {M : zM} {c : Nat} (hc : zIsC c) {y2 : Int32} {y3 : Int32} (h : (((M.1 (c + 1) 6) ≤ y3 → post y2 M) ∧ (¬ (M.1 (c + 1) 6) ≤ y3 → vp_in y3 5 ∧ zCi E jX1_fallsBy D 0 [.ref 43, .ref c, .int y3] M (fun r8 M6 => ((r8 < (M.1 (c + 5) (y3).toNatClampNeg) → w_X1_wouldBePale_36 E D post px c y2 y3 M6) ∧ (¬ r8 < (M.1 (c + 5) (y3).toNatClampNeg) → w_X1_wouldBePale_36 E D post px c (y2 + (1 : Int32)) y3 M6))) px))) : w_X1_wouldBePale_4 E D post px c y2 y3 M := by
  show Z E jX1_wouldBePale (D + 1) 0 (zQi post px) 4 0 [.ref 43, .ref c, .int y2, .int y3] [] M
  refine z_iload_n dX1_wouldBePale_4 rfl ?_
  refine z_aload_n dX1_wouldBePale_5 rfl ?_
  refine z_getR dX1_wouldBePale_6 zg_X1_41 (zsC_0 hc) rfl ?_
  refine z_getI dX1_wouldBePale_9 zg_X1_45 (zsC_1 hc) rfl ?_
  refine z_icmp_ge (tgt := 42) dX1_wouldBePale_12 (by decide) (fun g1 => ?_) (fun g1 => ?_)
  · have h2 := h.1 g1
    refine z_iload_n dX1_wouldBePale_42 rfl ?_
    exact z_iret dX1_wouldBePale_43 rfl rfl (by decide) h2
  · have h3 := h.2 g1
    refine z_aload_n dX1_wouldBePale_15 rfl ?_
    refine z_getR dX1_wouldBePale_16 zg_X1_41 (zsC_0 hc) rfl ?_
    refine z_getR dX1_wouldBePale_19 zg_X1_50 (zsC_1 hc) rfl ?_
    refine z_iload_n dX1_wouldBePale_22 rfl ?_
    obtain ⟨g5, h4⟩ := h3
    refine z_iald dX1_wouldBePale_23 (zsC_5 hc) g5 ?_
    refine z_aload_n dX1_wouldBePale_24 rfl ?_
    refine z_aload_n dX1_wouldBePale_25 rfl ?_
    refine z_iload_n dX1_wouldBePale_26 rfl ?_
    refine z_callVi (As := [.ref c, .int y3]) (st := [.int (M.1 (c + 5) (y3).toNatClampNeg)]) dX1_wouldBePale_27 zi_X1_53 rfl rfl zs_43 rfl rfl (Nat.le_of_ble_eq_true rfl) (by decide) (fun _ _ hx => hx) h4 ?_
    intro r8 M6 h7
    refine z_icmp_gt (tgt := 36) dX1_wouldBePale_30 (by decide) (fun g9 => ?_) (fun g9 => ?_)
    · have h10 := h7.1 g9
      exact h10
    · have h11 := h7.2 g9
      refine z_iinc dX1_wouldBePale_33 rfl (by decide) (ls' := [.ref 43, .ref c, .int (y2 + (1 : Int32)), .int y3]) rfl ?_
      exact h11
theorem t_X1_wouldBePale_36 {E : zEv} {D : Nat} {post : Int32 → zM → Prop} {px : String → zM → Prop} {M : zM} {c : Nat} (hc : zIsC c) {y2 : Int32} {y3 : Int32} (h : w_X1_wouldBePale_4 E D post px c y2 (y3 + (1 : Int32)) M) : w_X1_wouldBePale_36 E D post px c y2 y3 M := by
  show Z E jX1_wouldBePale (D + 1) 0 (zQi post px) 36 0 [.ref 43, .ref c, .int y2, .int y3] [] M
  refine z_iinc dX1_wouldBePale_36 rfl (by decide) (ls' := [.ref 43, .ref c, .int y2, .int (y3 + (1 : Int32))]) rfl ?_
  refine z_goto (tgt := 4) dX1_wouldBePale_39 (by decide) ?_
  exact h
def w_X1_raise_9 (E : zEv) (D : Nat) (post : zM → Prop) (px : String → zM → Prop) (c : Nat) (y2 : Int32) (y3 : Int32) (y5 : Int32) (M : zM) : Prop := Z E jX1_raise (D + 1) 0 (zQv post px) 9 0 [.ref 43, .ref c, .int y2, .int y3, .ref (c + 1), .int y5, zU] [] M
def w_X1_raise_96 (E : zEv) (D : Nat) (post : zM → Prop) (px : String → zM → Prop) (c : Nat) (y5 : Int32) (M : zM) : Prop := Z E jX1_raise (D + 1) 0 (zQv post px) 96 0 [.ref 43, zU, zU, zU, .ref (c + 1), .int y5, zU] [] M
def w_X1_raise_86 (E : zEv) (D : Nat) (post : zM → Prop) (px : String → zM → Prop) (c : Nat) (y2 : Int32) (y3 : Int32) (y5 : Int32) (s0 : Int32) (s1 : Int32) (M : zM) : Prop := Z E jX1_raise (D + 1) 0 (zQv post px) 86 0 [.ref 43, .ref c, .int y2, .int y3, .ref (c + 1), .int y5, zU] [.int s0, .int s1, .ref 46] M
def w_X1_raise_160 (E : zEv) (D : Nat) (post : zM → Prop) (px : String → zM → Prop) (c : Nat) (y5 : Int32) (y6 : Int32) (M : zM) : Prop := Z E jX1_raise (D + 1) 0 (zQv post px) 160 0 [.ref 43, zU, zU, zU, .ref (c + 1), .int y5, .int y6] [] M
def w_X1_raise_197 (E : zEv) (D : Nat) (post : zM → Prop) (px : String → zM → Prop) (c : Nat) (y5 : Int32) (M : zM) : Prop := Z E jX1_raise (D + 1) 0 (zQv post px) 197 0 [.ref 43, zU, zU, zU, .ref (c + 1), .int y5, zU] [] M
theorem e_X1_raise {E : zEv} {D : Nat} {post : zM → Prop} {px : String → zM → Prop} {M : zM} {c : Nat} {x2 : Int32} {x3 : Int32} (hc : zIsC c) (h : w_X1_raise_9 E D post px c x2 x3 (0 : Int32) M) : zCv E jX1_raise (D + 1) 0 [.ref 43, .ref c, .int x2, .int x3] M post px := by
  refine z_meth (by decide) (Nat.le_of_ble_eq_true rfl) ?_
  show Z E jX1_raise (D + 1) 0 (zQv post px) 0 0 [.ref 43, .ref c, .int x2, .int x3, zU, zU, zU] [] M
  refine z_aload_n dX1_raise_0 rfl ?_
  refine z_getR dX1_raise_1 zg_X1_41 (zsC_0 hc) rfl ?_
  refine z_astore dX1_raise_4 (by decide) (ls' := [.ref 43, .ref c, .int x2, .int x3, .ref (c + 1), zU, zU]) rfl ?_
  refine z_iconst (v := (0 : Int32)) dX1_raise_6 rfl ?_
  refine z_istore dX1_raise_7 (by decide) (ls' := [.ref 43, .ref c, .int x2, .int x3, .ref (c + 1), .int (0 : Int32), zU]) rfl ?_
  exact h
theorem t_X1_raise_9 {E : zEv} {D : Nat} {post : zM → Prop} {px : String → zM → Prop} {M : zM} {c : Nat} (hc : zIsC c) {y2 : Int32} {y3 : Int32} {y5 : Int32} (h : (((M.1 (c + 1) 6) ≤ y5 → w_X1_raise_96 E D post px c (0 : Int32) M) ∧ (¬ (M.1 (c + 1) 6) ≤ y5 → zCi E jX3_weighs D 0 [.ref c, .int y2, .int y5, .int y3] M (fun r6 M4 => vp_in y5 5 ∧ ∀ M9 : zM, M9 = zup M4 44 (y5).toNatClampNeg r6 → zCi E jX1_ownOf D 0 [.ref 43, .ref c, .int y5] M9 (fun r13 M11 => vp_in y5 5 ∧ ∀ M16 : zM, M16 = zup M11 45 (y5).toNatClampNeg r13 → vp_in y5 5 ∧ ((¬ (M16.1 45 (y5).toNatClampNeg) = 0 → vp_in y5 5 ∧ zCi E jX1_passes D 0 [.ref 43, .ref c, .int y5] M16 (fun r27 M25 => w_X1_raise_86 E D post px c y2 y3 y5 (((M16.1 45 (y5).toNatClampNeg) * r27) / (100 : Int32)) y5 M25) px) ∧ ((M16.1 45 (y5).toNatClampNeg) = 0 → w_X1_raise_86 E D post px c y2 y3 y5 (0 : Int32) y5 M16))) px) px))) : w_X1_raise_9 E D post px c y2 y3 y5 M := by
  show Z E jX1_raise (D + 1) 0 (zQv post px) 9 0 [.ref 43, .ref c, .int y2, .int y3, .ref (c + 1), .int y5, zU] [] M
  refine z_iload dX1_raise_9 rfl ?_
  refine z_aload dX1_raise_11 rfl ?_
  refine z_getI dX1_raise_13 zg_X1_45 (zsC_1 hc) rfl ?_
  refine z_icmp_ge (tgt := 93) dX1_raise_16 (by decide) (fun g1 => ?_) (fun g1 => ?_)
  · have h2 := h.1 g1
    refine z_iconst (v := (0 : Int32)) dX1_raise_93 rfl ?_
    refine z_istore dX1_raise_94 (by decide) (ls' := [.ref 43, .ref c, .int y2, .int y3, .ref (c + 1), .int (0 : Int32), zU]) rfl ?_
    refine z_weak [true, false, false, false, true, true, false] (ls' := [.ref 43, zU, zU, zU, .ref (c + 1), .int (0 : Int32), zU]) rfl rfl ?_
    exact h2
  · have h3 := h.2 g1
    refine z_aload_n dX1_raise_19 rfl ?_
    refine z_getR dX1_raise_20 zg_X1_18 zs_43 rfl ?_
    refine z_iload dX1_raise_23 rfl ?_
    refine z_aload_n dX1_raise_25 rfl ?_
    refine z_iload_n dX1_raise_26 rfl ?_
    refine z_iload dX1_raise_27 rfl ?_
    refine z_iload_n dX1_raise_29 rfl ?_
    refine z_callVi (As := [.int y2, .int y5, .int y3]) (st := [.int y5, .ref 44]) dX1_raise_30 zi_X1_63 rfl rfl (zsC_0 hc) rfl rfl (Nat.le_of_ble_eq_true rfl) (by decide) (fun _ _ hx => hx) h3 ?_
    intro r6 M4 h5
    obtain ⟨g8, h7⟩ := h5
    refine z_iast dX1_raise_33 zs_44 g8 ?_
    generalize hhM9 : zup M4 44 (y5).toNatClampNeg r6 = M9
    have h10 := h7 M9 hhM9.symm
    refine z_aload_n dX1_raise_34 rfl ?_
    refine z_getR dX1_raise_35 zg_X1_22 zs_43 rfl ?_
    refine z_iload dX1_raise_38 rfl ?_
    refine z_aload_n dX1_raise_40 rfl ?_
    refine z_aload_n dX1_raise_41 rfl ?_
    refine z_iload dX1_raise_42 rfl ?_
    refine z_callVi (As := [.ref c, .int y5]) (st := [.int y5, .ref 45]) dX1_raise_44 zi_X1_67 rfl rfl zs_43 rfl rfl (Nat.le_of_ble_eq_true rfl) (by decide) (fun _ _ hx => hx) h10 ?_
    intro r13 M11 h12
    obtain ⟨g15, h14⟩ := h12
    refine z_iast dX1_raise_47 zs_45 g15 ?_
    generalize hhM16 : zup M11 45 (y5).toNatClampNeg r13 = M16
    have h17 := h14 M16 hhM16.symm
    refine z_aload_n dX1_raise_48 rfl ?_
    refine z_getR dX1_raise_49 zg_X1_25 zs_43 rfl ?_
    refine z_iload dX1_raise_52 rfl ?_
    refine z_aload_n dX1_raise_54 rfl ?_
    refine z_getR dX1_raise_55 zg_X1_22 zs_43 rfl ?_
    refine z_iload dX1_raise_58 rfl ?_
    obtain ⟨g19, h18⟩ := h17
    refine z_iald dX1_raise_60 zs_45 g19 ?_
    refine z_if_ne (tgt := 68) dX1_raise_61 (by decide) (fun g20 => ?_) (fun g20 => ?_)
    · have h21 := h18.1 g20
      refine z_aload_n dX1_raise_68 rfl ?_
      refine z_getR dX1_raise_69 zg_X1_22 zs_43 rfl ?_
      refine z_iload dX1_raise_72 rfl ?_
      obtain ⟨g24, h23⟩ := h21
      refine z_iald dX1_raise_74 zs_45 g24 ?_
      refine z_aload_n dX1_raise_75 rfl ?_
      refine z_aload_n dX1_raise_76 rfl ?_
      refine z_iload dX1_raise_77 rfl ?_
      refine z_callVi (As := [.ref c, .int y5]) (st := [.int (M16.1 45 (y5).toNatClampNeg), .int y5, .ref 46]) dX1_raise_79 zi_X1_70 rfl rfl zs_43 rfl rfl (Nat.le_of_ble_eq_true rfl) (by decide) (fun _ _ hx => hx) h23 ?_
      intro r27 M25 h26
      refine z_imul dX1_raise_82 ?_
      refine z_bipush (v := (100 : Int32)) dX1_raise_83 rfl ?_
      refine z_idiv dX1_raise_85 (by decide) ?_
      exact h26
    · have h22 := h18.2 g20
      refine z_iconst (v := (0 : Int32)) dX1_raise_64 rfl ?_
      refine z_goto (tgt := 86) dX1_raise_65 (by decide) ?_
      exact h22
theorem t_X1_raise_96 {E : zEv} {D : Nat} {post : zM → Prop} {px : String → zM → Prop} {M : zM} {c : Nat} (hc : zIsC c) {y5 : Int32} (h : (((M.1 (c + 1) 6) ≤ y5 → post M) ∧ (¬ (M.1 (c + 1) 6) ≤ y5 → vp_in y5 5 ∧ vp_in (M.1 (c + 7) (y5).toNatClampNeg) 5 ∧ vp_in (M.1 (c + 7) (y5).toNatClampNeg) 5 ∧ ∀ M10 : zM, M10 = zup M 47 ((M.1 (c + 7) (y5).toNatClampNeg)).toNatClampNeg (M.1 45 ((M.1 (c + 7) (y5).toNatClampNeg)).toNatClampNeg) → ((y5 ≤ 0 → w_X1_raise_160 E D post px c y5 (M.1 (c + 7) (y5).toNatClampNeg) M10) ∧ (¬ y5 ≤ 0 → vp_in (M.1 (c + 7) (y5).toNatClampNeg) 5 ∧ vp_in (y5 - (1 : Int32)) 5 ∧ vp_in (M10.1 (c + 7) ((y5 - (1 : Int32))).toNatClampNeg) 5 ∧ vp_in (M.1 (c + 7) (y5).toNatClampNeg) 5 ∧ ∀ M23 : zM, M23 = zup M10 47 ((M.1 (c + 7) (y5).toNatClampNeg)).toNatClampNeg ((M10.1 47 ((M.1 (c + 7) (y5).toNatClampNeg)).toNatClampNeg) + (M10.1 46 ((M10.1 (c + 7) ((y5 - (1 : Int32))).toNatClampNeg)).toNatClampNeg)) → w_X1_raise_160 E D post px c y5 (M.1 (c + 7) (y5).toNatClampNeg) M23))))) : w_X1_raise_96 E D post px c y5 M := by
  show Z E jX1_raise (D + 1) 0 (zQv post px) 96 0 [.ref 43, zU, zU, zU, .ref (c + 1), .int y5, zU] [] M
  refine z_iload dX1_raise_96 rfl ?_
  refine z_aload dX1_raise_98 rfl ?_
  refine z_getI dX1_raise_100 zg_X1_45 (zsC_1 hc) rfl ?_
  refine z_icmp_ge (tgt := 203) dX1_raise_103 (by decide) (fun g1 => ?_) (fun g1 => ?_)
  · have h2 := h.1 g1
    exact z_vret dX1_raise_203 rfl (by decide) h2
  · have h3 := h.2 g1
    refine z_aload dX1_raise_106 rfl ?_
    refine z_getR dX1_raise_108 zg_X1_73 (zsC_1 hc) rfl ?_
    refine z_iload dX1_raise_111 rfl ?_
    obtain ⟨g5, h4⟩ := h3
    refine z_iald dX1_raise_113 (zsC_7 hc) g5 ?_
    refine z_istore dX1_raise_114 (by decide) (ls' := [.ref 43, zU, zU, zU, .ref (c + 1), .int y5, .int (M.1 (c + 7) (y5).toNatClampNeg)]) rfl ?_
    refine z_aload_n dX1_raise_116 rfl ?_
    refine z_getR dX1_raise_117 zg_X1_28 zs_43 rfl ?_
    refine z_iload dX1_raise_120 rfl ?_
    refine z_aload_n dX1_raise_122 rfl ?_
    refine z_getR dX1_raise_123 zg_X1_22 zs_43 rfl ?_
    refine z_iload dX1_raise_126 rfl ?_
    obtain ⟨g7, h6⟩ := h4
    refine z_iald dX1_raise_128 zs_45 g7 ?_
    obtain ⟨g9, h8⟩ := h6
    refine z_iast dX1_raise_129 zs_47 g9 ?_
    generalize hhM10 : zup M 47 ((M.1 (c + 7) (y5).toNatClampNeg)).toNatClampNeg (M.1 45 ((M.1 (c + 7) (y5).toNatClampNeg)).toNatClampNeg) = M10
    have h11 := h8 M10 hhM10.symm
    refine z_iload dX1_raise_130 rfl ?_
    refine z_if_le (tgt := 160) dX1_raise_132 (by decide) (fun g12 => ?_) (fun g12 => ?_)
    · have h13 := h11.1 g12
      exact h13
    · have h14 := h11.2 g12
      refine z_aload_n dX1_raise_135 rfl ?_
      refine z_getR dX1_raise_136 zg_X1_28 zs_43 rfl ?_
      refine z_iload dX1_raise_139 rfl ?_
      refine z_dup2 dX1_raise_141 rfl rfl ?_
      obtain ⟨g16, h15⟩ := h14
      refine z_iald dX1_raise_142 zs_47 g16 ?_
      refine z_aload_n dX1_raise_143 rfl ?_
      refine z_getR dX1_raise_144 zg_X1_25 zs_43 rfl ?_
      refine z_aload dX1_raise_147 rfl ?_
      refine z_getR dX1_raise_149 zg_X1_73 (zsC_1 hc) rfl ?_
      refine z_iload dX1_raise_152 rfl ?_
      refine z_iconst (v := (1 : Int32)) dX1_raise_154 rfl ?_
      refine z_isub dX1_raise_155 ?_
      obtain ⟨g18, h17⟩ := h15
      refine z_iald dX1_raise_156 (zsC_7 hc) g18 ?_
      obtain ⟨g20, h19⟩ := h17
      refine z_iald dX1_raise_157 zs_46 g20 ?_
      refine z_iadd dX1_raise_158 ?_
      obtain ⟨g22, h21⟩ := h19
      refine z_iast dX1_raise_159 zs_47 g22 ?_
      generalize hhM23 : zup M10 47 ((M.1 (c + 7) (y5).toNatClampNeg)).toNatClampNeg ((M10.1 47 ((M.1 (c + 7) (y5).toNatClampNeg)).toNatClampNeg) + (M10.1 46 ((M10.1 (c + 7) ((y5 - (1 : Int32))).toNatClampNeg)).toNatClampNeg)) = M23
      have h24 := h21 M23 hhM23.symm
      exact h24
theorem t_X1_raise_86 {E : zEv} {D : Nat} {post : zM → Prop} {px : String → zM → Prop} {M : zM} {c : Nat} (hc : zIsC c) {y2 : Int32} {y3 : Int32} {y5 : Int32} {s0 : Int32} {s1 : Int32} (h : vp_in s1 5 ∧ ∀ M3 : zM, M3 = zup M 46 (s1).toNatClampNeg s0 → w_X1_raise_9 E D post px c y2 y3 (y5 + (1 : Int32)) M3) : w_X1_raise_86 E D post px c y2 y3 y5 s0 s1 M := by
  show Z E jX1_raise (D + 1) 0 (zQv post px) 86 0 [.ref 43, .ref c, .int y2, .int y3, .ref (c + 1), .int y5, zU] [.int s0, .int s1, .ref 46] M
  obtain ⟨g2, h1⟩ := h
  refine z_iast dX1_raise_86 zs_46 g2 ?_
  generalize hhM3 : zup M 46 (s1).toNatClampNeg s0 = M3
  have h4 := h1 M3 hhM3.symm
  refine z_iinc dX1_raise_87 rfl (by decide) (ls' := [.ref 43, .ref c, .int y2, .int y3, .ref (c + 1), .int (y5 + (1 : Int32)), zU]) rfl ?_
  refine z_goto (tgt := 9) dX1_raise_90 (by decide) ?_
  exact h4
theorem t_X1_raise_160 {E : zEv} {D : Nat} {post : zM → Prop} {px : String → zM → Prop} {M : zM} {c : Nat} (hc : zIsC c) {y5 : Int32} {y6 : Int32} (h : ((((M.1 (c + 1) 6) - (1 : Int32)) ≤ y5 → w_X1_raise_197 E D post px c y5 M) ∧ (¬ ((M.1 (c + 1) 6) - (1 : Int32)) ≤ y5 → vp_in y6 5 ∧ vp_in (y5 + (1 : Int32)) 5 ∧ vp_in (M.1 (c + 7) ((y5 + (1 : Int32))).toNatClampNeg) 5 ∧ vp_in y6 5 ∧ ∀ M12 : zM, M12 = zup M 47 (y6).toNatClampNeg ((M.1 47 (y6).toNatClampNeg) + (M.1 46 ((M.1 (c + 7) ((y5 + (1 : Int32))).toNatClampNeg)).toNatClampNeg)) → w_X1_raise_197 E D post px c y5 M12))) : w_X1_raise_160 E D post px c y5 y6 M := by
  show Z E jX1_raise (D + 1) 0 (zQv post px) 160 0 [.ref 43, zU, zU, zU, .ref (c + 1), .int y5, .int y6] [] M
  refine z_iload dX1_raise_160 rfl ?_
  refine z_aload dX1_raise_162 rfl ?_
  refine z_getI dX1_raise_164 zg_X1_45 (zsC_1 hc) rfl ?_
  refine z_iconst (v := (1 : Int32)) dX1_raise_167 rfl ?_
  refine z_isub dX1_raise_168 ?_
  refine z_icmp_ge (tgt := 197) dX1_raise_169 (by decide) (fun g1 => ?_) (fun g1 => ?_)
  · have h2 := h.1 g1
    refine z_weak [true, false, false, false, true, true, false] (ls' := [.ref 43, zU, zU, zU, .ref (c + 1), .int y5, zU]) rfl rfl ?_
    exact h2
  · have h3 := h.2 g1
    refine z_aload_n dX1_raise_172 rfl ?_
    refine z_getR dX1_raise_173 zg_X1_28 zs_43 rfl ?_
    refine z_iload dX1_raise_176 rfl ?_
    refine z_dup2 dX1_raise_178 rfl rfl ?_
    obtain ⟨g5, h4⟩ := h3
    refine z_iald dX1_raise_179 zs_47 g5 ?_
    refine z_aload_n dX1_raise_180 rfl ?_
    refine z_getR dX1_raise_181 zg_X1_25 zs_43 rfl ?_
    refine z_aload dX1_raise_184 rfl ?_
    refine z_getR dX1_raise_186 zg_X1_73 (zsC_1 hc) rfl ?_
    refine z_iload dX1_raise_189 rfl ?_
    refine z_iconst (v := (1 : Int32)) dX1_raise_191 rfl ?_
    refine z_iadd dX1_raise_192 ?_
    obtain ⟨g7, h6⟩ := h4
    refine z_iald dX1_raise_193 (zsC_7 hc) g7 ?_
    obtain ⟨g9, h8⟩ := h6
    refine z_iald dX1_raise_194 zs_46 g9 ?_
    refine z_iadd dX1_raise_195 ?_
    obtain ⟨g11, h10⟩ := h8
    refine z_iast dX1_raise_196 zs_47 g11 ?_
    generalize hhM12 : zup M 47 (y6).toNatClampNeg ((M.1 47 (y6).toNatClampNeg) + (M.1 46 ((M.1 (c + 7) ((y5 + (1 : Int32))).toNatClampNeg)).toNatClampNeg)) = M12
    have h13 := h10 M12 hhM12.symm
    refine z_weak [true, false, false, false, true, true, false] (ls' := [.ref 43, zU, zU, zU, .ref (c + 1), .int y5, zU]) rfl rfl ?_
    exact h13
theorem t_X1_raise_197 {E : zEv} {D : Nat} {post : zM → Prop} {px : String → zM → Prop} {M : zM} {c : Nat} (hc : zIsC c) {y5 : Int32} (h : w_X1_raise_96 E D post px c (y5 + (1 : Int32)) M) : w_X1_raise_197 E D post px c y5 M := by
  show Z E jX1_raise (D + 1) 0 (zQv post px) 197 0 [.ref 43, zU, zU, zU, .ref (c + 1), .int y5, zU] [] M
  refine z_iinc dX1_raise_197 rfl (by decide) (ls' := [.ref 43, zU, zU, zU, .ref (c + 1), .int (y5 + (1 : Int32)), zU]) rfl ?_
  refine z_goto (tgt := 96) dX1_raise_200 (by decide) ?_
  exact h
theorem e_X1_ownOf {E : zEv} {D : Nat} {post : Int32 → zM → Prop} {px : String → zM → Prop} {M : zM} {c : Nat} {x2 : Int32} (hc : zIsC c) (h : vp_in x2 5 ∧ ((¬ (M.1 44 (x2).toNatClampNeg) = 0 → vp_in x2 5 ∧ vp_in x2 5 ∧ vp_in x2 5 ∧ zCi E jX6_sum D 0 [.ref 36, .int (0 : Int32), .ref c, .int x2, .int (M.1 44 (x2).toNatClampNeg)] M (fun r14 M12 => post (zmax (0 : Int32) (((((M.1 44 (x2).toNatClampNeg) * (M.1 (c + 2) (x2).toNatClampNeg)) + (M.1 (c + 3) (x2).toNatClampNeg)) - (M.1 (c + 4) (x2).toNatClampNeg)) + r14)) M12) px) ∧ ((M.1 44 (x2).toNatClampNeg) = 0 → post (0 : Int32) M))) : zCi E jX1_ownOf (D + 1) 0 [.ref 43, .ref c, .int x2] M post px := by
  refine z_meth (by decide) (Nat.le_of_ble_eq_true rfl) ?_
  show Z E jX1_ownOf (D + 1) 0 (zQi post px) 0 0 [.ref 43, .ref c, .int x2, zU, zU, zU] [] M
  refine z_aload_n dX1_ownOf_0 rfl ?_
  refine z_getR dX1_ownOf_1 zg_X1_18 zs_43 rfl ?_
  refine z_iload_n dX1_ownOf_4 rfl ?_
  obtain ⟨g2, h1⟩ := h
  refine z_iald dX1_ownOf_5 zs_44 g2 ?_
  refine z_istore_n dX1_ownOf_6 (by decide) (ls' := [.ref 43, .ref c, .int x2, .int (M.1 44 (x2).toNatClampNeg), zU, zU]) rfl ?_
  refine z_iload_n dX1_ownOf_7 rfl ?_
  refine z_if_ne (tgt := 13) dX1_ownOf_8 (by decide) (fun g3 => ?_) (fun g3 => ?_)
  · have h4 := h1.1 g3
    refine z_aload_n dX1_ownOf_13 rfl ?_
    refine z_getR dX1_ownOf_14 zg_X1_41 (zsC_0 hc) rfl ?_
    refine z_astore dX1_ownOf_17 (by decide) (ls' := [.ref 43, .ref c, .int x2, .int (M.1 44 (x2).toNatClampNeg), .ref (c + 1), zU]) rfl ?_
    refine z_iload_n dX1_ownOf_19 rfl ?_
    refine z_aload dX1_ownOf_20 rfl ?_
    refine z_getR dX1_ownOf_22 zg_X1_76 (zsC_1 hc) rfl ?_
    refine z_iload_n dX1_ownOf_25 rfl ?_
    obtain ⟨g7, h6⟩ := h4
    refine z_iald dX1_ownOf_26 (zsC_2 hc) g7 ?_
    refine z_imul dX1_ownOf_27 ?_
    refine z_aload dX1_ownOf_28 rfl ?_
    refine z_getR dX1_ownOf_30 zg_X1_79 (zsC_1 hc) rfl ?_
    refine z_iload_n dX1_ownOf_33 rfl ?_
    obtain ⟨g9, h8⟩ := h6
    refine z_iald dX1_ownOf_34 (zsC_3 hc) g9 ?_
    refine z_iadd dX1_ownOf_35 ?_
    refine z_aload dX1_ownOf_36 rfl ?_
    refine z_getR dX1_ownOf_38 zg_X1_82 (zsC_1 hc) rfl ?_
    refine z_iload_n dX1_ownOf_41 rfl ?_
    obtain ⟨g11, h10⟩ := h8
    refine z_iald dX1_ownOf_42 (zsC_4 hc) g11 ?_
    refine z_isub dX1_ownOf_43 ?_
    refine z_istore dX1_ownOf_44 (by decide) (ls' := [.ref 43, .ref c, .int x2, .int (M.1 44 (x2).toNatClampNeg), .ref (c + 1), .int ((((M.1 44 (x2).toNatClampNeg) * (M.1 (c + 2) (x2).toNatClampNeg)) + (M.1 (c + 3) (x2).toNatClampNeg)) - (M.1 (c + 4) (x2).toNatClampNeg))]) rfl ?_
    refine z_iconst (v := (0 : Int32)) dX1_ownOf_46 rfl ?_
    refine z_iload dX1_ownOf_47 rfl ?_
    refine z_aload_n dX1_ownOf_49 rfl ?_
    refine z_getR dX1_ownOf_50 zg_X1_12 zs_43 rfl ?_
    refine z_iconst (v := (0 : Int32)) dX1_ownOf_53 rfl ?_
    refine z_aload_n dX1_ownOf_54 rfl ?_
    refine z_iload_n dX1_ownOf_55 rfl ?_
    refine z_iload_n dX1_ownOf_56 rfl ?_
    refine z_callVi (As := [.int (0 : Int32), .ref c, .int x2, .int (M.1 44 (x2).toNatClampNeg)]) (st := [.int ((((M.1 44 (x2).toNatClampNeg) * (M.1 (c + 2) (x2).toNatClampNeg)) + (M.1 (c + 3) (x2).toNatClampNeg)) - (M.1 (c + 4) (x2).toNatClampNeg)), .int (0 : Int32)]) dX1_ownOf_57 zi_X1_37 rfl rfl zs_36 rfl rfl (Nat.le_of_ble_eq_true rfl) (by decide) (fun _ _ hx => hx) h10 ?_
    intro r14 M12 h13
    refine z_iadd dX1_ownOf_60 ?_
    refine z_max dX1_ownOf_61 zm_X1_57 (Nat.le_of_ble_eq_true rfl) (by decide) ?_
    exact z_iret dX1_ownOf_64 rfl rfl (by decide) h13
  · have h5 := h1.2 g3
    refine z_iconst (v := (0 : Int32)) dX1_ownOf_11 rfl ?_
    exact z_iret dX1_ownOf_12 rfl rfl (by decide) h5
theorem e_X1_passes {E : zEv} {D : Nat} {post : Int32 → zM → Prop} {px : String → zM → Prop} {M : zM} {c : Nat} {x2 : Int32} (hc : zIsC c) (h : ((¬ (M.1 36 6) = (-1 : Int32) → vp_in x2 5 ∧ zCi E jX6_sum D 0 [.ref 36, .int (2 : Int32), .ref c, .int x2, .int (M.1 44 (x2).toNatClampNeg)] M (fun r8 M6 => post (zmin (99 : Int32) r8) M6) px) ∧ ((M.1 36 6) = (-1 : Int32) → post (50 : Int32) M))) : zCi E jX1_passes (D + 1) 0 [.ref 43, .ref c, .int x2] M post px := by
  refine z_meth (by decide) (Nat.le_of_ble_eq_true rfl) ?_
  show Z E jX1_passes (D + 1) 0 (zQi post px) 0 0 [.ref 43, .ref c, .int x2] [] M
  refine z_aload_n dX1_passes_0 rfl ?_
  refine z_getR dX1_passes_1 zg_X1_12 zs_43 rfl ?_
  refine z_getI dX1_passes_4 zg_X1_85 zs_36 rfl ?_
  refine z_iconst (v := (-1 : Int32)) dX1_passes_7 rfl ?_
  refine z_icmp_ne (tgt := 14) dX1_passes_8 (by decide) (fun g1 => ?_) (fun g1 => ?_)
  · have h2 := h.1 g1
    refine z_bipush (v := (99 : Int32)) dX1_passes_14 rfl ?_
    refine z_aload_n dX1_passes_16 rfl ?_
    refine z_getR dX1_passes_17 zg_X1_12 zs_43 rfl ?_
    refine z_iconst (v := (2 : Int32)) dX1_passes_20 rfl ?_
    refine z_aload_n dX1_passes_21 rfl ?_
    refine z_iload_n dX1_passes_22 rfl ?_
    refine z_aload_n dX1_passes_23 rfl ?_
    refine z_getR dX1_passes_24 zg_X1_18 zs_43 rfl ?_
    refine z_iload_n dX1_passes_27 rfl ?_
    obtain ⟨g5, h4⟩ := h2
    refine z_iald dX1_passes_28 zs_44 g5 ?_
    refine z_callVi (As := [.int (2 : Int32), .ref c, .int x2, .int (M.1 44 (x2).toNatClampNeg)]) (st := [.int (99 : Int32)]) dX1_passes_29 zi_X1_37 rfl rfl zs_36 rfl rfl (Nat.le_of_ble_eq_true rfl) (by decide) (fun _ _ hx => hx) h4 ?_
    intro r8 M6 h7
    refine z_min dX1_passes_32 zm_X1_88 (Nat.le_of_ble_eq_true rfl) (by decide) ?_
    exact z_iret dX1_passes_35 rfl rfl (by decide) h7
  · have h3 := h.2 g1
    refine z_bipush (v := (50 : Int32)) dX1_passes_11 rfl ?_
    exact z_iret dX1_passes_13 rfl rfl (by decide) h3
def w_X1_givesAway_22 (E : zEv) (D : Nat) (post : Int32 → zM → Prop) (px : String → zM → Prop)   (M : zM) : Prop := Z E jX1_givesAway D 0 (zQi post px) 22 0 [zU, zU] [] M
def w_X1_givesAway_23 (E : zEv) (D : Nat) (post : Int32 → zM → Prop) (px : String → zM → Prop)  (s0 : Int32) (M : zM) : Prop := Z E jX1_givesAway D 0 (zQi post px) 23 0 [zU, zU] [.int s0] M
theorem e_X1_givesAway {E : zEv} {D : Nat} {post : Int32 → zM → Prop} {px : String → zM → Prop} {M : zM} {x1 : Int32}  (h : vp_in x1 5 ∧ (((M.1 47 (x1).toNatClampNeg) ≤ 0 → w_X1_givesAway_22 E D post px  M) ∧ (¬ (M.1 47 (x1).toNatClampNeg) ≤ 0 → vp_in x1 5 ∧ ((¬ (M.1 44 (x1).toNatClampNeg) = 0 → w_X1_givesAway_22 E D post px  M) ∧ ((M.1 44 (x1).toNatClampNeg) = 0 → w_X1_givesAway_23 E D post px (1 : Int32) M))))) : zCi E jX1_givesAway D 0 [.ref 43, .int x1] M post px := by
  refine z_meth (by decide) (Nat.le_of_ble_eq_true rfl) ?_
  show Z E jX1_givesAway D 0 (zQi post px) 0 0 [.ref 43, .int x1] [] M
  refine z_aload_n dX1_givesAway_0 rfl ?_
  refine z_getR dX1_givesAway_1 zg_X1_28 zs_43 rfl ?_
  refine z_iload_n dX1_givesAway_4 rfl ?_
  obtain ⟨g2, h1⟩ := h
  refine z_iald dX1_givesAway_5 zs_47 g2 ?_
  refine z_if_le (tgt := 22) dX1_givesAway_6 (by decide) (fun g3 => ?_) (fun g3 => ?_)
  · have h4 := h1.1 g3
    refine z_weak [false, false] (ls' := [zU, zU]) rfl rfl ?_
    exact h4
  · have h5 := h1.2 g3
    refine z_aload_n dX1_givesAway_9 rfl ?_
    refine z_getR dX1_givesAway_10 zg_X1_18 zs_43 rfl ?_
    refine z_iload_n dX1_givesAway_13 rfl ?_
    obtain ⟨g7, h6⟩ := h5
    refine z_iald dX1_givesAway_14 zs_44 g7 ?_
    refine z_if_ne (tgt := 22) dX1_givesAway_15 (by decide) (fun g8 => ?_) (fun g8 => ?_)
    · have h9 := h6.1 g8
      refine z_weak [false, false] (ls' := [zU, zU]) rfl rfl ?_
      exact h9
    · have h10 := h6.2 g8
      refine z_iconst (v := (1 : Int32)) dX1_givesAway_18 rfl ?_
      refine z_goto (tgt := 23) dX1_givesAway_19 (by decide) ?_
      refine z_weak [false, false] (ls' := [zU, zU]) rfl rfl ?_
      exact h10
theorem t_X1_givesAway_22 {E : zEv} {D : Nat} {post : Int32 → zM → Prop} {px : String → zM → Prop} {M : zM}    (h : w_X1_givesAway_23 E D post px (0 : Int32) M) : w_X1_givesAway_22 E D post px  M := by
  show Z E jX1_givesAway D 0 (zQi post px) 22 0 [zU, zU] [] M
  refine z_iconst (v := (0 : Int32)) dX1_givesAway_22 rfl ?_
  exact h
theorem t_X1_givesAway_23 {E : zEv} {D : Nat} {post : Int32 → zM → Prop} {px : String → zM → Prop} {M : zM}   {s0 : Int32} (h : (s0 = 0 ∨ s0 = 1) ∧ post s0 M) : w_X1_givesAway_23 E D post px s0 M := by
  show Z E jX1_givesAway D 0 (zQi post px) 23 0 [zU, zU] [.int s0] M
  obtain ⟨g2, h1⟩ := h
  exact z_iret dX1_givesAway_23 rfl (zbool g2) (by decide) h1
def w_X1_isSeen_53 (E : zEv) (D : Nat) (post : Int32 → zM → Prop) (px : String → zM → Prop) (c : Nat) (s0 : Int32) (M : zM) : Prop := Z E jX1_isSeen (D + 1) 0 (zQi post px) 53 0 [zU, zU, zU, zU, zU, zU] [.int s0] M
theorem e_X1_isSeen {E : zEv} {D : Nat} {post : Int32 → zM → Prop} {px : String → zM → Prop} {M : zM} {c : Nat} {x2 : Int32} {x3 : Int32} (hc : zIsC c) (h : vp_in x2 4 ∧ vp_in x3 5 ∧ vp_in x3 5 ∧ zCi E jX11_readBy D 0 [.int (M.1 (c + 13) (x2).toNatClampNeg), .int (zmin (99 : Int32) ((M.1 (c + 5) (x3).toNatClampNeg) + (M.1 47 (x3).toNatClampNeg)))] M (fun r9 M7 => zCi E jX11_readBy D 0 [.int (M.1 (c + 13) (x2).toNatClampNeg), .int (M.1 (c + 5) (x3).toNatClampNeg)] M7 (fun r12 M10 => ((r9 ≤ r12 → w_X1_isSeen_53 E D post px c (0 : Int32) M10) ∧ (¬ r9 ≤ r12 → w_X1_isSeen_53 E D post px c (1 : Int32) M10))) (fun _ _ => False)) (fun _ _ => False)) : zCi E jX1_isSeen (D + 1) 0 [.ref 43, .ref c, .int x2, .int x3] M post px := by
  refine z_meth (by decide) (Nat.le_of_ble_eq_true rfl) ?_
  show Z E jX1_isSeen (D + 1) 0 (zQi post px) 0 0 [.ref 43, .ref c, .int x2, .int x3, zU, zU] [] M
  refine z_aload_n dX1_isSeen_0 rfl ?_
  refine z_getR dX1_isSeen_1 zg_X1_91 (zsC_0 hc) rfl ?_
  refine z_iload_n dX1_isSeen_4 rfl ?_
  obtain ⟨g2, h1⟩ := h
  refine z_iald dX1_isSeen_5 (zsC_13 hc) g2 ?_
  refine z_istore dX1_isSeen_6 (by decide) (ls' := [.ref 43, .ref c, .int x2, .int x3, .int (M.1 (c + 13) (x2).toNatClampNeg), zU]) rfl ?_
  refine z_aload_n dX1_isSeen_8 rfl ?_
  refine z_getR dX1_isSeen_9 zg_X1_41 (zsC_0 hc) rfl ?_
  refine z_getR dX1_isSeen_12 zg_X1_50 (zsC_1 hc) rfl ?_
  refine z_iload_n dX1_isSeen_15 rfl ?_
  obtain ⟨g4, h3⟩ := h1
  refine z_iald dX1_isSeen_16 (zsC_5 hc) g4 ?_
  refine z_istore dX1_isSeen_17 (by decide) (ls' := [.ref 43, .ref c, .int x2, .int x3, .int (M.1 (c + 13) (x2).toNatClampNeg), .int (M.1 (c + 5) (x3).toNatClampNeg)]) rfl ?_
  refine z_iload dX1_isSeen_19 rfl ?_
  refine z_bipush (v := (99 : Int32)) dX1_isSeen_21 rfl ?_
  refine z_iload dX1_isSeen_23 rfl ?_
  refine z_aload_n dX1_isSeen_25 rfl ?_
  refine z_getR dX1_isSeen_26 zg_X1_28 zs_43 rfl ?_
  refine z_iload_n dX1_isSeen_29 rfl ?_
  obtain ⟨g6, h5⟩ := h3
  refine z_iald dX1_isSeen_30 zs_47 g6 ?_
  refine z_iadd dX1_isSeen_31 ?_
  refine z_min dX1_isSeen_32 zm_X1_88 (Nat.le_of_ble_eq_true rfl) (by decide) ?_
  refine z_callNi (As := [.int (M.1 (c + 13) (x2).toNatClampNeg), .int (zmin (99 : Int32) ((M.1 (c + 5) (x3).toNatClampNeg) + (M.1 47 (x3).toNatClampNeg)))]) (st := []) dX1_isSeen_35 zn_X1_94 rfl rfl (Nat.le_of_ble_eq_true rfl) (by decide) h5 ?_
  intro r9 M7 h8
  refine z_iload dX1_isSeen_38 rfl ?_
  refine z_iload dX1_isSeen_40 rfl ?_
  refine z_callNi (As := [.int (M.1 (c + 13) (x2).toNatClampNeg), .int (M.1 (c + 5) (x3).toNatClampNeg)]) (st := [.int r9]) dX1_isSeen_42 zn_X1_94 rfl rfl (Nat.le_of_ble_eq_true rfl) (by decide) h8 ?_
  intro r12 M10 h11
  refine z_icmp_le (tgt := 52) dX1_isSeen_45 (by decide) (fun g13 => ?_) (fun g13 => ?_)
  · have h14 := h11.1 g13
    refine z_iconst (v := (0 : Int32)) dX1_isSeen_52 rfl ?_
    refine z_weak [false, false, false, false, false, false] (ls' := [zU, zU, zU, zU, zU, zU]) rfl rfl ?_
    exact h14
  · have h15 := h11.2 g13
    refine z_iconst (v := (1 : Int32)) dX1_isSeen_48 rfl ?_
    refine z_goto (tgt := 53) dX1_isSeen_49 (by decide) ?_
    refine z_weak [false, false, false, false, false, false] (ls' := [zU, zU, zU, zU, zU, zU]) rfl rfl ?_
    exact h15
theorem t_X1_isSeen_53 {E : zEv} {D : Nat} {post : Int32 → zM → Prop} {px : String → zM → Prop} {M : zM} {c : Nat} (hc : zIsC c) {s0 : Int32} (h : (s0 = 0 ∨ s0 = 1) ∧ post s0 M) : w_X1_isSeen_53 E D post px c s0 M := by
  show Z E jX1_isSeen (D + 1) 0 (zQi post px) 53 0 [zU, zU, zU, zU, zU, zU] [.int s0] M
  obtain ⟨g2, h1⟩ := h
  exact z_iret dX1_isSeen_53 rfl (zbool g2) (by decide) h1
def w_X1_isFoundOut_2 (E : zEv) (D : Nat) (post : Int32 → zM → Prop) (px : String → zM → Prop) (c : Nat) (y2 : Int32) (y3 : Int32) (M : zM) : Prop := Z E jX1_isFoundOut (D + 1) 0 (zQi post px) 2 0 [.ref 43, .ref c, .int y2, .int y3] [] M
theorem e_X1_isFoundOut {E : zEv} {D : Nat} {post : Int32 → zM → Prop} {px : String → zM → Prop} {M : zM} {c : Nat} {x2 : Int32} (hc : zIsC c) (h : w_X1_isFoundOut_2 E D post px c x2 (0 : Int32) M) : zCi E jX1_isFoundOut (D + 1) 0 [.ref 43, .ref c, .int x2] M post px := by
  refine z_meth (by decide) (Nat.le_of_ble_eq_true rfl) ?_
  show Z E jX1_isFoundOut (D + 1) 0 (zQi post px) 0 0 [.ref 43, .ref c, .int x2, zU] [] M
  refine z_iconst (v := (0 : Int32)) dX1_isFoundOut_0 rfl ?_
  refine z_istore_n dX1_isFoundOut_1 (by decide) (ls' := [.ref 43, .ref c, .int x2, .int (0 : Int32)]) rfl ?_
  exact h
theorem t_X1_isFoundOut_2 {E : zEv} {D : Nat} {post : Int32 → zM → Prop} {px : String → zM → Prop} {M : zM} {c : Nat} (hc : zIsC c) {y2 : Int32} {y3 : Int32} (h : (((M.1 c 8) ≤ y3 → post (0 : Int32) M) ∧ (¬ (M.1 c 8) ≤ y3 → zCi E jX1_isSeen D 0 [.ref 43, .ref c, .int y3, .int y2] M (fun r6 M4 => ((r6 = 0 → w_X1_isFoundOut_2 E D post px c y2 (y3 + (1 : Int32)) M4) ∧ (¬ r6 = 0 → post (1 : Int32) M4))) px))) : w_X1_isFoundOut_2 E D post px c y2 y3 M := by
  show Z E jX1_isFoundOut (D + 1) 0 (zQi post px) 2 0 [.ref 43, .ref c, .int y2, .int y3] [] M
  refine z_iload_n dX1_isFoundOut_2 rfl ?_
  refine z_aload_n dX1_isFoundOut_3 rfl ?_
  refine z_getI dX1_isFoundOut_4 zg_X1_97 (zsC_0 hc) rfl ?_
  refine z_icmp_ge (tgt := 28) dX1_isFoundOut_7 (by decide) (fun g1 => ?_) (fun g1 => ?_)
  · have h2 := h.1 g1
    refine z_iconst (v := (0 : Int32)) dX1_isFoundOut_28 rfl ?_
    exact z_iret dX1_isFoundOut_29 rfl (by decide) (by decide) h2
  · have h3 := h.2 g1
    refine z_aload_n dX1_isFoundOut_10 rfl ?_
    refine z_aload_n dX1_isFoundOut_11 rfl ?_
    refine z_iload_n dX1_isFoundOut_12 rfl ?_
    refine z_iload_n dX1_isFoundOut_13 rfl ?_
    refine z_callVi (As := [.ref c, .int y3, .int y2]) (st := []) dX1_isFoundOut_14 zi_X1_100 rfl rfl zs_43 rfl rfl (Nat.le_of_ble_eq_true rfl) (by decide) (fun _ _ hx => hx) h3 ?_
    intro r6 M4 h5
    refine z_if_eq (tgt := 22) dX1_isFoundOut_17 (by decide) (fun g7 => ?_) (fun g7 => ?_)
    · have h8 := h5.1 g7
      refine z_iinc dX1_isFoundOut_22 rfl (by decide) (ls' := [.ref 43, .ref c, .int y2, .int (y3 + (1 : Int32))]) rfl ?_
      refine z_goto (tgt := 2) dX1_isFoundOut_25 (by decide) ?_
      exact h8
    · have h9 := h5.2 g7
      refine z_iconst (v := (1 : Int32)) dX1_isFoundOut_20 rfl ?_
      exact z_iret dX1_isFoundOut_21 rfl (by decide) (by decide) h9
def w_X1_seeingWomen_4 (E : zEv) (D : Nat) (post : Int32 → zM → Prop) (px : String → zM → Prop) (c : Nat) (y2 : Int32) (y3 : Int32) (M : zM) : Prop := Z E jX1_seeingWomen (D + 1) 0 (zQi post px) 4 0 [.ref 43, .ref c, .int y2, .int y3, zU] [] M
def w_X1_seeingWomen_15 (E : zEv) (D : Nat) (post : Int32 → zM → Prop) (px : String → zM → Prop) (c : Nat) (y2 : Int32) (y3 : Int32) (y4 : Int32) (M : zM) : Prop := Z E jX1_seeingWomen (D + 1) 0 (zQi post px) 15 0 [.ref 43, .ref c, .int y2, .int y3, .int y4] [] M
def w_X1_seeingWomen_44 (E : zEv) (D : Nat) (post : Int32 → zM → Prop) (px : String → zM → Prop) (c : Nat) (y2 : Int32) (y3 : Int32) (y4 : Int32) (M : zM) : Prop := Z E jX1_seeingWomen (D + 1) 0 (zQi post px) 44 0 [.ref 43, .ref c, .int y2, .int y3, .int y4] [] M
theorem e_X1_seeingWomen {E : zEv} {D : Nat} {post : Int32 → zM → Prop} {px : String → zM → Prop} {M : zM} {c : Nat} (hc : zIsC c) (h : w_X1_seeingWomen_4 E D post px c (0 : Int32) (0 : Int32) M) : zCi E jX1_seeingWomen (D + 1) 0 [.ref 43, .ref c] M post px := by
  refine z_meth (by decide) (Nat.le_of_ble_eq_true rfl) ?_
  show Z E jX1_seeingWomen (D + 1) 0 (zQi post px) 0 0 [.ref 43, .ref c, zU, zU, zU] [] M
  refine z_iconst (v := (0 : Int32)) dX1_seeingWomen_0 rfl ?_
  refine z_istore_n dX1_seeingWomen_1 (by decide) (ls' := [.ref 43, .ref c, .int (0 : Int32), zU, zU]) rfl ?_
  refine z_iconst (v := (0 : Int32)) dX1_seeingWomen_2 rfl ?_
  refine z_istore_n dX1_seeingWomen_3 (by decide) (ls' := [.ref 43, .ref c, .int (0 : Int32), .int (0 : Int32), zU]) rfl ?_
  exact h
theorem t_X1_seeingWomen_4 {E : zEv} {D : Nat} {post : Int32 → zM → Prop} {px : String → zM → Prop} {M : zM} {c : Nat} (hc : zIsC c) {y2 : Int32} {y3 : Int32} (h : (((M.1 c 8) ≤ y3 → post y2 M) ∧ (¬ (M.1 c 8) ≤ y3 → w_X1_seeingWomen_15 E D post px c y2 y3 (0 : Int32) M))) : w_X1_seeingWomen_4 E D post px c y2 y3 M := by
  show Z E jX1_seeingWomen (D + 1) 0 (zQi post px) 4 0 [.ref 43, .ref c, .int y2, .int y3, zU] [] M
  refine z_iload_n dX1_seeingWomen_4 rfl ?_
  refine z_aload_n dX1_seeingWomen_5 rfl ?_
  refine z_getI dX1_seeingWomen_6 zg_X1_97 (zsC_0 hc) rfl ?_
  refine z_icmp_ge (tgt := 56) dX1_seeingWomen_9 (by decide) (fun g1 => ?_) (fun g1 => ?_)
  · have h2 := h.1 g1
    refine z_iload_n dX1_seeingWomen_56 rfl ?_
    exact z_iret dX1_seeingWomen_57 rfl rfl (by decide) h2
  · have h3 := h.2 g1
    refine z_iconst (v := (0 : Int32)) dX1_seeingWomen_12 rfl ?_
    refine z_istore dX1_seeingWomen_13 (by decide) (ls' := [.ref 43, .ref c, .int y2, .int y3, .int (0 : Int32)]) rfl ?_
    exact h3
theorem t_X1_seeingWomen_15 {E : zEv} {D : Nat} {post : Int32 → zM → Prop} {px : String → zM → Prop} {M : zM} {c : Nat} (hc : zIsC c) {y2 : Int32} {y3 : Int32} {y4 : Int32} (h : (((M.1 (c + 1) 6) ≤ y4 → w_X1_seeingWomen_4 E D post px c y2 (y3 + (1 : Int32)) M) ∧ (¬ (M.1 (c + 1) 6) ≤ y4 → zCi E jX1_isSeen D 0 [.ref 43, .ref c, .int y3, .int y4] M (fun r6 M4 => ((r6 = 0 → w_X1_seeingWomen_44 E D post px c y2 y3 y4 M4) ∧ (¬ r6 = 0 → w_X1_seeingWomen_44 E D post px c (y2 ||| ((1 : Int32) <<< (y3 &&& 31))) y3 y4 M4))) px))) : w_X1_seeingWomen_15 E D post px c y2 y3 y4 M := by
  show Z E jX1_seeingWomen (D + 1) 0 (zQi post px) 15 0 [.ref 43, .ref c, .int y2, .int y3, .int y4] [] M
  refine z_iload dX1_seeingWomen_15 rfl ?_
  refine z_aload_n dX1_seeingWomen_17 rfl ?_
  refine z_getR dX1_seeingWomen_18 zg_X1_41 (zsC_0 hc) rfl ?_
  refine z_getI dX1_seeingWomen_21 zg_X1_45 (zsC_1 hc) rfl ?_
  refine z_icmp_ge (tgt := 50) dX1_seeingWomen_24 (by decide) (fun g1 => ?_) (fun g1 => ?_)
  · have h2 := h.1 g1
    refine z_iinc dX1_seeingWomen_50 rfl (by decide) (ls' := [.ref 43, .ref c, .int y2, .int (y3 + (1 : Int32)), .int y4]) rfl ?_
    refine z_goto (tgt := 4) dX1_seeingWomen_53 (by decide) ?_
    refine z_weak [true, true, true, true, false] (ls' := [.ref 43, .ref c, .int y2, .int (y3 + (1 : Int32)), zU]) rfl rfl ?_
    exact h2
  · have h3 := h.2 g1
    refine z_aload_n dX1_seeingWomen_27 rfl ?_
    refine z_aload_n dX1_seeingWomen_28 rfl ?_
    refine z_iload_n dX1_seeingWomen_29 rfl ?_
    refine z_iload dX1_seeingWomen_30 rfl ?_
    refine z_callVi (As := [.ref c, .int y3, .int y4]) (st := []) dX1_seeingWomen_32 zi_X1_100 rfl rfl zs_43 rfl rfl (Nat.le_of_ble_eq_true rfl) (by decide) (fun _ _ hx => hx) h3 ?_
    intro r6 M4 h5
    refine z_if_eq (tgt := 44) dX1_seeingWomen_35 (by decide) (fun g7 => ?_) (fun g7 => ?_)
    · have h8 := h5.1 g7
      exact h8
    · have h9 := h5.2 g7
      refine z_iload_n dX1_seeingWomen_38 rfl ?_
      refine z_iconst (v := (1 : Int32)) dX1_seeingWomen_39 rfl ?_
      refine z_iload_n dX1_seeingWomen_40 rfl ?_
      refine z_ishl dX1_seeingWomen_41 ?_
      refine z_ior dX1_seeingWomen_42 ?_
      refine z_istore_n dX1_seeingWomen_43 (by decide) (ls' := [.ref 43, .ref c, .int (y2 ||| ((1 : Int32) <<< (y3 &&& 31))), .int y3, .int y4]) rfl ?_
      exact h9
theorem t_X1_seeingWomen_44 {E : zEv} {D : Nat} {post : Int32 → zM → Prop} {px : String → zM → Prop} {M : zM} {c : Nat} (hc : zIsC c) {y2 : Int32} {y3 : Int32} {y4 : Int32} (h : w_X1_seeingWomen_15 E D post px c y2 y3 (y4 + (1 : Int32)) M) : w_X1_seeingWomen_44 E D post px c y2 y3 y4 M := by
  show Z E jX1_seeingWomen (D + 1) 0 (zQi post px) 44 0 [.ref 43, .ref c, .int y2, .int y3, .int y4] [] M
  refine z_iinc dX1_seeingWomen_44 rfl (by decide) (ls' := [.ref 43, .ref c, .int y2, .int y3, .int (y4 + (1 : Int32))]) rfl ?_
  refine z_goto (tgt := 15) dX1_seeingWomen_47 (by decide) ?_
  exact h
def w_X1_utter_16 (E : zEv) (D : Nat) (post : Int32 → zM → Prop) (px : String → zM → Prop) (c : Nat) (y2 : Int32) (y3 : Int32) (y4 : Int32) (y5 : Int32) (M : zM) : Prop := Z E jX1_utter (D + 1) 0 (zQi post px) 16 0 [.ref 43, .ref c, .int y2, .int y3, .int y4, .int y5] [] M
def w_X1_utter_85 (E : zEv) (D : Nat) (post : Int32 → zM → Prop) (px : String → zM → Prop) (c : Nat) (y2 : Int32) (y3 : Int32) (y4 : Int32) (y5 : Int32) (M : zM) : Prop := Z E jX1_utter (D + 1) 0 (zQi post px) 85 0 [.ref 43, .ref c, .int y2, .int y3, .int y4, .int y5] [] M
theorem e_X1_utter {E : zEv} {D : Nat} {post : Int32 → zM → Prop} {px : String → zM → Prop} {M : zM} {c : Nat} {x2 : Int32} {x3 : Int32} (hc : zIsC c) (h : zCv E jX1_raise D 0 [.ref 43, .ref c, .int x2, .int (M.1 c 10)] M (fun M1 => w_X1_utter_16 E D post px c x2 x3 (0 : Int32) (0 : Int32) M1) px) : zCi E jX1_utter (D + 1) 0 [.ref 43, .ref c, .int x2, .int x3] M post px := by
  refine z_meth (by decide) (Nat.le_of_ble_eq_true rfl) ?_
  show Z E jX1_utter (D + 1) 0 (zQi post px) 0 0 [.ref 43, .ref c, .int x2, .int x3, zU, zU] [] M
  refine z_aload_n dX1_utter_0 rfl ?_
  refine z_aload_n dX1_utter_1 rfl ?_
  refine z_iload_n dX1_utter_2 rfl ?_
  refine z_aload_n dX1_utter_3 rfl ?_
  refine z_getI dX1_utter_4 zg_X1_104 (zsC_0 hc) rfl ?_
  refine z_callVv (As := [.ref c, .int x2, .int (M.1 c 10)]) (st := []) dX1_utter_7 zi_X1_107 rfl rfl zs_43 rfl rfl (Nat.le_of_ble_eq_true rfl) (by decide) (fun _ _ hx => hx) h ?_
  intro M1 h2
  refine z_iconst (v := (0 : Int32)) dX1_utter_10 rfl ?_
  refine z_istore dX1_utter_11 (by decide) (ls' := [.ref 43, .ref c, .int x2, .int x3, .int (0 : Int32), zU]) rfl ?_
  refine z_iconst (v := (0 : Int32)) dX1_utter_13 rfl ?_
  refine z_istore dX1_utter_14 (by decide) (ls' := [.ref 43, .ref c, .int x2, .int x3, .int (0 : Int32), .int (0 : Int32)]) rfl ?_
  exact h2
theorem t_X1_utter_16 {E : zEv} {D : Nat} {post : Int32 → zM → Prop} {px : String → zM → Prop} {M : zM} {c : Nat} (hc : zIsC c) {y2 : Int32} {y3 : Int32} {y4 : Int32} {y5 : Int32} (h : (((M.1 (c + 1) 6) ≤ y5 → post y4 M) ∧ (¬ (M.1 (c + 1) 6) ≤ y5 → vp_in y5 5 ∧ (((M.1 47 (y5).toNatClampNeg) ≤ 0 → w_X1_utter_85 E D post px c y2 y3 y4 y5 M) ∧ (¬ (M.1 47 (y5).toNatClampNeg) ≤ 0 → vp_in y5 5 ∧ zCv E jX8_darken D 0 [.ref (c + 1), .int y5, .int (M.1 47 (y5).toNatClampNeg)] M (fun M11 => vp_in y5 5 ∧ zCv E jX7_add D 0 [.ref (c + 8), .int (M11.1 c 14), .int y5, .int y3, .int y2, .int (M11.1 47 (y5).toNatClampNeg)] M11 (fun M15 => w_X1_utter_85 E D post px c y2 y3 (y4 ||| ((1 : Int32) <<< (y5 &&& 31))) y5 M15) px) px))))) : w_X1_utter_16 E D post px c y2 y3 y4 y5 M := by
  show Z E jX1_utter (D + 1) 0 (zQi post px) 16 0 [.ref 43, .ref c, .int y2, .int y3, .int y4, .int y5] [] M
  refine z_iload dX1_utter_16 rfl ?_
  refine z_aload_n dX1_utter_18 rfl ?_
  refine z_getR dX1_utter_19 zg_X1_41 (zsC_0 hc) rfl ?_
  refine z_getI dX1_utter_22 zg_X1_45 (zsC_1 hc) rfl ?_
  refine z_icmp_ge (tgt := 91) dX1_utter_25 (by decide) (fun g1 => ?_) (fun g1 => ?_)
  · have h2 := h.1 g1
    refine z_iload dX1_utter_91 rfl ?_
    exact z_iret dX1_utter_93 rfl rfl (by decide) h2
  · have h3 := h.2 g1
    refine z_aload_n dX1_utter_28 rfl ?_
    refine z_getR dX1_utter_29 zg_X1_28 zs_43 rfl ?_
    refine z_iload dX1_utter_32 rfl ?_
    obtain ⟨g5, h4⟩ := h3
    refine z_iald dX1_utter_34 zs_47 g5 ?_
    refine z_if_le (tgt := 85) dX1_utter_35 (by decide) (fun g6 => ?_) (fun g6 => ?_)
    · have h7 := h4.1 g6
      exact h7
    · have h8 := h4.2 g6
      refine z_aload_n dX1_utter_38 rfl ?_
      refine z_getR dX1_utter_39 zg_X1_41 (zsC_0 hc) rfl ?_
      refine z_iload dX1_utter_42 rfl ?_
      refine z_aload_n dX1_utter_44 rfl ?_
      refine z_getR dX1_utter_45 zg_X1_28 zs_43 rfl ?_
      refine z_iload dX1_utter_48 rfl ?_
      obtain ⟨g10, h9⟩ := h8
      refine z_iald dX1_utter_50 zs_47 g10 ?_
      refine z_callVv (As := [.int y5, .int (M.1 47 (y5).toNatClampNeg)]) (st := []) dX1_utter_51 zi_X1_111 rfl rfl (zsC_1 hc) rfl rfl (Nat.le_of_ble_eq_true rfl) (by decide) (fun _ _ hx => hx) h9 ?_
      intro M11 h12
      refine z_aload_n dX1_utter_54 rfl ?_
      refine z_getR dX1_utter_55 zg_X1_115 (zsC_0 hc) rfl ?_
      refine z_aload_n dX1_utter_58 rfl ?_
      refine z_getI dX1_utter_59 zg_X1_119 (zsC_0 hc) rfl ?_
      refine z_iload dX1_utter_62 rfl ?_
      refine z_iload_n dX1_utter_64 rfl ?_
      refine z_iload_n dX1_utter_65 rfl ?_
      refine z_aload_n dX1_utter_66 rfl ?_
      refine z_getR dX1_utter_67 zg_X1_28 zs_43 rfl ?_
      refine z_iload dX1_utter_70 rfl ?_
      obtain ⟨g14, h13⟩ := h12
      refine z_iald dX1_utter_72 zs_47 g14 ?_
      refine z_callVv (As := [.int (M11.1 c 14), .int y5, .int y3, .int y2, .int (M11.1 47 (y5).toNatClampNeg)]) (st := []) dX1_utter_73 zi_X1_122 rfl rfl (zsC_8 hc) rfl rfl (Nat.le_of_ble_eq_true rfl) (by decide) (fun _ _ hx => hx) h13 ?_
      intro M15 h16
      refine z_iload dX1_utter_76 rfl ?_
      refine z_iconst (v := (1 : Int32)) dX1_utter_78 rfl ?_
      refine z_iload dX1_utter_79 rfl ?_
      refine z_ishl dX1_utter_81 ?_
      refine z_ior dX1_utter_82 ?_
      refine z_istore dX1_utter_83 (by decide) (ls' := [.ref 43, .ref c, .int y2, .int y3, .int (y4 ||| ((1 : Int32) <<< (y5 &&& 31))), .int y5]) rfl ?_
      exact h16
theorem t_X1_utter_85 {E : zEv} {D : Nat} {post : Int32 → zM → Prop} {px : String → zM → Prop} {M : zM} {c : Nat} (hc : zIsC c) {y2 : Int32} {y3 : Int32} {y4 : Int32} {y5 : Int32} (h : w_X1_utter_16 E D post px c y2 y3 y4 (y5 + (1 : Int32)) M) : w_X1_utter_85 E D post px c y2 y3 y4 y5 M := by
  show Z E jX1_utter (D + 1) 0 (zQi post px) 85 0 [.ref 43, .ref c, .int y2, .int y3, .int y4, .int y5] [] M
  refine z_iinc dX1_utter_85 rfl (by decide) (ls' := [.ref 43, .ref c, .int y2, .int y3, .int y4, .int (y5 + (1 : Int32))]) rfl ?_
  refine z_goto (tgt := 16) dX1_utter_88 (by decide) ?_
  exact h
def w_X1_live_5 (E : zEv) (D : Nat) (post : Int32 → zM → Prop) (px : String → zM → Prop) (c : Nat) (y2 : Int32) (y3 : Int32) (y4 : Int32) (M : zM) : Prop := Z E jX1_live (D + 1) 0 (zQi post px) 5 0 [.ref 43, .ref c, .int y2, .int y3, .int y4] [] M
def w_X1_live_56 (E : zEv) (D : Nat) (post : Int32 → zM → Prop) (px : String → zM → Prop) (c : Nat) (y2 : Int32) (y3 : Int32) (y4 : Int32) (M : zM) : Prop := Z E jX1_live (D + 1) 0 (zQi post px) 56 0 [.ref 43, .ref c, .int y2, .int y3, .int y4] [] M
theorem e_X1_live {E : zEv} {D : Nat} {post : Int32 → zM → Prop} {px : String → zM → Prop} {M : zM} {c : Nat} {x2 : Int32} (hc : zIsC c) (h : w_X1_live_5 E D post px c x2 (0 : Int32) (0 : Int32) M) : zCi E jX1_live (D + 1) 0 [.ref 43, .ref c, .int x2] M post px := by
  refine z_meth (by decide) (Nat.le_of_ble_eq_true rfl) ?_
  show Z E jX1_live (D + 1) 0 (zQi post px) 0 0 [.ref 43, .ref c, .int x2, zU, zU] [] M
  refine z_iconst (v := (0 : Int32)) dX1_live_0 rfl ?_
  refine z_istore_n dX1_live_1 (by decide) (ls' := [.ref 43, .ref c, .int x2, .int (0 : Int32), zU]) rfl ?_
  refine z_iconst (v := (0 : Int32)) dX1_live_2 rfl ?_
  refine z_istore dX1_live_3 (by decide) (ls' := [.ref 43, .ref c, .int x2, .int (0 : Int32), .int (0 : Int32)]) rfl ?_
  exact h
theorem t_X1_live_5 {E : zEv} {D : Nat} {post : Int32 → zM → Prop} {px : String → zM → Prop} {M : zM} {c : Nat} (hc : zIsC c) {y2 : Int32} {y3 : Int32} {y4 : Int32} (h : ((y2 ≤ y4 → post y3 M) ∧ (¬ y2 ≤ y4 → zCv E jX1_fall D 0 [.ref 43, .ref c] M (fun M4 => zCi E jX3_draw D 0 [.ref c] M4 (fun r8 M6 => (((M6.1 c 13) ≤ (zrem r8 (100 : Int32)) → w_X1_live_56 E D post px c y2 y3 y4 M6) ∧ (¬ (M6.1 c 13) ≤ (zrem r8 (100 : Int32)) → (((M6.1 c 7) ≤ 0 → w_X1_live_56 E D post px c y2 y3 y4 M6) ∧ (¬ (M6.1 c 7) ≤ 0 → zCi E jX3_draw D 0 [.ref c] M6 (fun r17 M15 => ¬ (M15.1 c 7) = 0 ∧ zCi E jX1_utter D 0 [.ref 43, .ref c, .int (zrem r17 (M15.1 c 7)), .int (1 : Int32)] M15 (fun r22 M20 => w_X1_live_56 E D post px c y2 (y3 + (1 : Int32)) y4 M20) px) px))))) px) px))) : w_X1_live_5 E D post px c y2 y3 y4 M := by
  show Z E jX1_live (D + 1) 0 (zQi post px) 5 0 [.ref 43, .ref c, .int y2, .int y3, .int y4] [] M
  refine z_iload dX1_live_5 rfl ?_
  refine z_iload_n dX1_live_7 rfl ?_
  refine z_icmp_ge (tgt := 83) dX1_live_8 (by decide) (fun g1 => ?_) (fun g1 => ?_)
  · have h2 := h.1 g1
    refine z_iload_n dX1_live_83 rfl ?_
    exact z_iret dX1_live_84 rfl rfl (by decide) h2
  · have h3 := h.2 g1
    refine z_aload_n dX1_live_11 rfl ?_
    refine z_aload_n dX1_live_12 rfl ?_
    refine z_callVv (As := [.ref c]) (st := []) dX1_live_13 zi_X1_128 rfl rfl zs_43 rfl rfl (Nat.le_of_ble_eq_true rfl) (by decide) (fun _ _ hx => hx) h3 ?_
    intro M4 h5
    refine z_aload_n dX1_live_16 rfl ?_
    refine z_callVi (As := []) (st := []) dX1_live_17 zi_X1_132 rfl rfl (zsC_0 hc) rfl rfl (Nat.le_of_ble_eq_true rfl) (by decide) (fun _ _ hx => hx) h5 ?_
    intro r8 M6 h7
    refine z_bipush (v := (100 : Int32)) dX1_live_20 rfl ?_
    refine z_irem dX1_live_22 (by decide) ?_
    refine z_aload_n dX1_live_23 rfl ?_
    refine z_getI dX1_live_24 zg_X1_136 (zsC_0 hc) rfl ?_
    refine z_icmp_ge (tgt := 56) dX1_live_27 (by decide) (fun g9 => ?_) (fun g9 => ?_)
    · have h10 := h7.1 g9
      exact h10
    · have h11 := h7.2 g9
      refine z_aload_n dX1_live_30 rfl ?_
      refine z_getI dX1_live_31 zg_X1_139 (zsC_0 hc) rfl ?_
      refine z_if_le (tgt := 56) dX1_live_34 (by decide) (fun g12 => ?_) (fun g12 => ?_)
      · have h13 := h11.1 g12
        exact h13
      · have h14 := h11.2 g12
        refine z_aload_n dX1_live_37 rfl ?_
        refine z_aload_n dX1_live_38 rfl ?_
        refine z_aload_n dX1_live_39 rfl ?_
        refine z_callVi (As := []) (st := [.ref c, .ref 43]) dX1_live_40 zi_X1_132 rfl rfl (zsC_0 hc) rfl rfl (Nat.le_of_ble_eq_true rfl) (by decide) (fun _ _ hx => hx) h14 ?_
        intro r17 M15 h16
        refine z_aload_n dX1_live_43 rfl ?_
        refine z_getI dX1_live_44 zg_X1_139 (zsC_0 hc) rfl ?_
        obtain ⟨g19, h18⟩ := h16
        refine z_irem dX1_live_47 g19 ?_
        refine z_iconst (v := (1 : Int32)) dX1_live_48 rfl ?_
        refine z_callVi (As := [.ref c, .int (zrem r17 (M15.1 c 7)), .int (1 : Int32)]) (st := []) dX1_live_49 zi_X1_142 rfl rfl zs_43 rfl rfl (Nat.le_of_ble_eq_true rfl) (by decide) (fun _ _ hx => hx) h18 ?_
        intro r22 M20 h21
        refine z_pop dX1_live_52 rfl ?_
        refine z_iinc dX1_live_53 rfl (by decide) (ls' := [.ref 43, .ref c, .int y2, .int (y3 + (1 : Int32)), .int y4]) rfl ?_
        exact h21
theorem t_X1_live_56 {E : zEv} {D : Nat} {post : Int32 → zM → Prop} {px : String → zM → Prop} {M : zM} {c : Nat} (hc : zIsC c) {y2 : Int32} {y3 : Int32} {y4 : Int32} (h : zCv E jX1_blushFalsely D 0 [.ref 43, .ref c] M (fun M1 => ∀ M3 : zM, M3 = zup M1 c 14 (zmin (9999 : Int32) ((M1.1 c 14) + (1 : Int32))) → w_X1_live_5 E D post px c y2 y3 (y4 + (1 : Int32)) M3) px) : w_X1_live_56 E D post px c y2 y3 y4 M := by
  show Z E jX1_live (D + 1) 0 (zQi post px) 56 0 [.ref 43, .ref c, .int y2, .int y3, .int y4] [] M
  refine z_aload_n dX1_live_56 rfl ?_
  refine z_aload_n dX1_live_57 rfl ?_
  refine z_callVv (As := [.ref c]) (st := []) dX1_live_58 zi_X1_146 rfl rfl zs_43 rfl rfl (Nat.le_of_ble_eq_true rfl) (by decide) (fun _ _ hx => hx) h ?_
  intro M1 h2
  refine z_aload_n dX1_live_61 rfl ?_
  refine z_sipush (v := (9999 : Int32)) dX1_live_62 rfl ?_
  refine z_aload_n dX1_live_65 rfl ?_
  refine z_getI dX1_live_66 zg_X1_119 (zsC_0 hc) rfl ?_
  refine z_iconst (v := (1 : Int32)) dX1_live_69 rfl ?_
  refine z_iadd dX1_live_70 ?_
  refine z_min dX1_live_71 zm_X1_88 (Nat.le_of_ble_eq_true rfl) (by decide) ?_
  refine z_putI dX1_live_74 zp_X1_119 (zsC_0 hc) rfl rfl rfl ?_
  generalize hhM3 : zup M1 c 14 (zmin (9999 : Int32) ((M1.1 c 14) + (1 : Int32))) = M3
  have h4 := h2 M3 hhM3.symm
  refine z_iinc dX1_live_77 rfl (by decide) (ls' := [.ref 43, .ref c, .int y2, .int y3, .int (y4 + (1 : Int32))]) rfl ?_
  refine z_goto (tgt := 5) dX1_live_80 (by decide) ?_
  exact h4
def w_X1_blushFalsely_2 (E : zEv) (D : Nat) (post : zM → Prop) (px : String → zM → Prop) (c : Nat) (y2 : Int32) (M : zM) : Prop := Z E jX1_blushFalsely (D + 1) 0 (zQv post px) 2 0 [zU, .ref c, .int y2] [] M
def w_X1_blushFalsely_53 (E : zEv) (D : Nat) (post : zM → Prop) (px : String → zM → Prop) (c : Nat) (y2 : Int32) (M : zM) : Prop := Z E jX1_blushFalsely (D + 1) 0 (zQv post px) 53 0 [zU, .ref c, .int y2] [] M
theorem e_X1_blushFalsely {E : zEv} {D : Nat} {post : zM → Prop} {px : String → zM → Prop} {M : zM} {c : Nat} (hc : zIsC c) (h : w_X1_blushFalsely_2 E D post px c (0 : Int32) M) : zCv E jX1_blushFalsely (D + 1) 0 [.ref 43, .ref c] M post px := by
  refine z_meth (by decide) (Nat.le_of_ble_eq_true rfl) ?_
  show Z E jX1_blushFalsely (D + 1) 0 (zQv post px) 0 0 [.ref 43, .ref c, zU] [] M
  refine z_iconst (v := (0 : Int32)) dX1_blushFalsely_0 rfl ?_
  refine z_istore_n dX1_blushFalsely_1 (by decide) (ls' := [.ref 43, .ref c, .int (0 : Int32)]) rfl ?_
  refine z_weak [false, true, true] (ls' := [zU, .ref c, .int (0 : Int32)]) rfl rfl ?_
  exact h
theorem t_X1_blushFalsely_2 {E : zEv} {D : Nat} {post : zM → Prop} {px : String → zM → Prop} {M : zM} {c : Nat} (hc : zIsC c) {y2 : Int32} (h : (((M.1 (c + 1) 6) ≤ y2 → post M) ∧ (¬ (M.1 (c + 1) 6) ≤ y2 → zCi E jX3_draw D 0 [.ref c] M (fun r6 M4 => (((M4.1 c 12) ≤ (zrem r6 (100 : Int32)) → w_X1_blushFalsely_53 E D post px c y2 M4) ∧ (¬ (M4.1 c 12) ≤ (zrem r6 (100 : Int32)) → zCv E jX8_darken D 0 [.ref (c + 1), .int y2, .int (20 : Int32)] M4 (fun M10 => zCv E jX7_add D 0 [.ref (c + 8), .int (M10.1 c 14), .int y2, .int (2 : Int32), .int (-1 : Int32), .int (20 : Int32)] M10 (fun M12 => w_X1_blushFalsely_53 E D post px c y2 M12) px) px))) px))) : w_X1_blushFalsely_2 E D post px c y2 M := by
  show Z E jX1_blushFalsely (D + 1) 0 (zQv post px) 2 0 [zU, .ref c, .int y2] [] M
  refine z_iload_n dX1_blushFalsely_2 rfl ?_
  refine z_aload_n dX1_blushFalsely_3 rfl ?_
  refine z_getR dX1_blushFalsely_4 zg_X1_41 (zsC_0 hc) rfl ?_
  refine z_getI dX1_blushFalsely_7 zg_X1_45 (zsC_1 hc) rfl ?_
  refine z_icmp_ge (tgt := 59) dX1_blushFalsely_10 (by decide) (fun g1 => ?_) (fun g1 => ?_)
  · have h2 := h.1 g1
    exact z_vret dX1_blushFalsely_59 rfl (by decide) h2
  · have h3 := h.2 g1
    refine z_aload_n dX1_blushFalsely_13 rfl ?_
    refine z_callVi (As := []) (st := []) dX1_blushFalsely_14 zi_X1_132 rfl rfl (zsC_0 hc) rfl rfl (Nat.le_of_ble_eq_true rfl) (by decide) (fun _ _ hx => hx) h3 ?_
    intro r6 M4 h5
    refine z_bipush (v := (100 : Int32)) dX1_blushFalsely_17 rfl ?_
    refine z_irem dX1_blushFalsely_19 (by decide) ?_
    refine z_aload_n dX1_blushFalsely_20 rfl ?_
    refine z_getI dX1_blushFalsely_21 zg_X1_149 (zsC_0 hc) rfl ?_
    refine z_icmp_ge (tgt := 53) dX1_blushFalsely_24 (by decide) (fun g7 => ?_) (fun g7 => ?_)
    · have h8 := h5.1 g7
      exact h8
    · have h9 := h5.2 g7
      refine z_aload_n dX1_blushFalsely_27 rfl ?_
      refine z_getR dX1_blushFalsely_28 zg_X1_41 (zsC_0 hc) rfl ?_
      refine z_iload_n dX1_blushFalsely_31 rfl ?_
      refine z_bipush (v := (20 : Int32)) dX1_blushFalsely_32 rfl ?_
      refine z_callVv (As := [.int y2, .int (20 : Int32)]) (st := []) dX1_blushFalsely_34 zi_X1_111 rfl rfl (zsC_1 hc) rfl rfl (Nat.le_of_ble_eq_true rfl) (by decide) (fun _ _ hx => hx) h9 ?_
      intro M10 h11
      refine z_aload_n dX1_blushFalsely_37 rfl ?_
      refine z_getR dX1_blushFalsely_38 zg_X1_115 (zsC_0 hc) rfl ?_
      refine z_aload_n dX1_blushFalsely_41 rfl ?_
      refine z_getI dX1_blushFalsely_42 zg_X1_119 (zsC_0 hc) rfl ?_
      refine z_iload_n dX1_blushFalsely_45 rfl ?_
      refine z_iconst (v := (2 : Int32)) dX1_blushFalsely_46 rfl ?_
      refine z_iconst (v := (-1 : Int32)) dX1_blushFalsely_47 rfl ?_
      refine z_bipush (v := (20 : Int32)) dX1_blushFalsely_48 rfl ?_
      refine z_callVv (As := [.int (M10.1 c 14), .int y2, .int (2 : Int32), .int (-1 : Int32), .int (20 : Int32)]) (st := []) dX1_blushFalsely_50 zi_X1_122 rfl rfl (zsC_8 hc) rfl rfl (Nat.le_of_ble_eq_true rfl) (by decide) (fun _ _ hx => hx) h11 ?_
      intro M12 h13
      exact h13
theorem t_X1_blushFalsely_53 {E : zEv} {D : Nat} {post : zM → Prop} {px : String → zM → Prop} {M : zM} {c : Nat} (hc : zIsC c) {y2 : Int32} (h : w_X1_blushFalsely_2 E D post px c (y2 + (1 : Int32)) M) : w_X1_blushFalsely_53 E D post px c y2 M := by
  show Z E jX1_blushFalsely (D + 1) 0 (zQv post px) 53 0 [zU, .ref c, .int y2] [] M
  refine z_iinc dX1_blushFalsely_53 rfl (by decide) (ls' := [zU, .ref c, .int (y2 + (1 : Int32))]) rfl ?_
  refine z_goto (tgt := 2) dX1_blushFalsely_56 (by decide) ?_
  exact h
