theorem e_X8_copy {E : zEv} {D : Nat} {post : zM → Prop} {px : String → zM → Prop} {M : zM} {c : Nat} {c2 : Nat} (hc : zIsC c) (hc2 : zIsC c2) (h : ∀ M1 : zM, M1 = zrow M (c + 2) (va_cpy (M.1 (c2 + 2)) (M.1 (c + 2)) ((0 : Int32)).toNatClampNeg ((0 : Int32)).toNatClampNeg ((5 : Int32)).toNatClampNeg) → ∀ M3 : zM, M3 = zrow M1 (c + 3) (va_cpy (M1.1 (c2 + 3)) (M1.1 (c + 3)) ((0 : Int32)).toNatClampNeg ((0 : Int32)).toNatClampNeg ((5 : Int32)).toNatClampNeg) → ∀ M5 : zM, M5 = zrow M3 (c + 4) (va_cpy (M3.1 (c2 + 4)) (M3.1 (c + 4)) ((0 : Int32)).toNatClampNeg ((0 : Int32)).toNatClampNeg ((5 : Int32)).toNatClampNeg) → ∀ M7 : zM, M7 = zrow M5 (c + 5) (va_cpy (M5.1 (c2 + 5)) (M5.1 (c + 5)) ((0 : Int32)).toNatClampNeg ((0 : Int32)).toNatClampNeg ((5 : Int32)).toNatClampNeg) → ∀ M9 : zM, M9 = zrow M7 (c + 6) (va_cpy (M7.1 (c2 + 6)) (M7.1 (c + 6)) ((0 : Int32)).toNatClampNeg ((0 : Int32)).toNatClampNeg ((5 : Int32)).toNatClampNeg) → ∀ M11 : zM, M11 = zrow M9 (c + 7) (va_cpy (M9.1 (c2 + 7)) (M9.1 (c + 7)) ((0 : Int32)).toNatClampNeg ((0 : Int32)).toNatClampNeg ((5 : Int32)).toNatClampNeg) → ∀ M13 : zM, M13 = zup M11 (c + 1) 6 (M11.1 (c2 + 1) 6) → post M13) : zCv E jX8_copy D 0 [.ref (c + 1), .ref (c2 + 1)] M post px := by
  refine z_meth (by decide) (Nat.le_of_ble_eq_true rfl) ?_
  show Z E jX8_copy D 0 (zQv post px) 0 0 [.ref (c + 1), .ref (c2 + 1)] [] M
  refine z_aload_n dX8_copy_0 rfl ?_
  refine z_getR dX8_copy_1 zg_X8_9 (zsC_1 hc2) rfl ?_
  refine z_iconst (v := (0 : Int32)) dX8_copy_4 rfl ?_
  refine z_aload_n dX8_copy_5 rfl ?_
  refine z_getR dX8_copy_6 zg_X8_9 (zsC_1 hc) rfl ?_
  refine z_iconst (v := (0 : Int32)) dX8_copy_9 rfl ?_
  refine z_iconst (v := (5 : Int32)) dX8_copy_10 rfl ?_
  refine z_copy dX8_copy_11 zc_X8_34 (zsC_2 hc2) (zsC_2 hc) (by decide) (by decide) (by decide) (by decide) (by decide) (Nat.le_of_ble_eq_true rfl) ?_
  generalize hhM1 : zrow M (c + 2) (va_cpy (M.1 (c2 + 2)) (M.1 (c + 2)) ((0 : Int32)).toNatClampNeg ((0 : Int32)).toNatClampNeg ((5 : Int32)).toNatClampNeg) = M1
  have h2 := h M1 hhM1.symm
  refine z_aload_n dX8_copy_14 rfl ?_
  refine z_getR dX8_copy_15 zg_X8_15 (zsC_1 hc2) rfl ?_
  refine z_iconst (v := (0 : Int32)) dX8_copy_18 rfl ?_
  refine z_aload_n dX8_copy_19 rfl ?_
  refine z_getR dX8_copy_20 zg_X8_15 (zsC_1 hc) rfl ?_
  refine z_iconst (v := (0 : Int32)) dX8_copy_23 rfl ?_
  refine z_iconst (v := (5 : Int32)) dX8_copy_24 rfl ?_
  refine z_copy dX8_copy_25 zc_X8_34 (zsC_3 hc2) (zsC_3 hc) (by decide) (by decide) (by decide) (by decide) (by decide) (Nat.le_of_ble_eq_true rfl) ?_
  generalize hhM3 : zrow M1 (c + 3) (va_cpy (M1.1 (c2 + 3)) (M1.1 (c + 3)) ((0 : Int32)).toNatClampNeg ((0 : Int32)).toNatClampNeg ((5 : Int32)).toNatClampNeg) = M3
  have h4 := h2 M3 hhM3.symm
  refine z_aload_n dX8_copy_28 rfl ?_
  refine z_getR dX8_copy_29 zg_X8_18 (zsC_1 hc2) rfl ?_
  refine z_iconst (v := (0 : Int32)) dX8_copy_32 rfl ?_
  refine z_aload_n dX8_copy_33 rfl ?_
  refine z_getR dX8_copy_34 zg_X8_18 (zsC_1 hc) rfl ?_
  refine z_iconst (v := (0 : Int32)) dX8_copy_37 rfl ?_
  refine z_iconst (v := (5 : Int32)) dX8_copy_38 rfl ?_
  refine z_copy dX8_copy_39 zc_X8_34 (zsC_4 hc2) (zsC_4 hc) (by decide) (by decide) (by decide) (by decide) (by decide) (Nat.le_of_ble_eq_true rfl) ?_
  generalize hhM5 : zrow M3 (c + 4) (va_cpy (M3.1 (c2 + 4)) (M3.1 (c + 4)) ((0 : Int32)).toNatClampNeg ((0 : Int32)).toNatClampNeg ((5 : Int32)).toNatClampNeg) = M5
  have h6 := h4 M5 hhM5.symm
  refine z_aload_n dX8_copy_42 rfl ?_
  refine z_getR dX8_copy_43 zg_X8_21 (zsC_1 hc2) rfl ?_
  refine z_iconst (v := (0 : Int32)) dX8_copy_46 rfl ?_
  refine z_aload_n dX8_copy_47 rfl ?_
  refine z_getR dX8_copy_48 zg_X8_21 (zsC_1 hc) rfl ?_
  refine z_iconst (v := (0 : Int32)) dX8_copy_51 rfl ?_
  refine z_iconst (v := (5 : Int32)) dX8_copy_52 rfl ?_
  refine z_copy dX8_copy_53 zc_X8_34 (zsC_5 hc2) (zsC_5 hc) (by decide) (by decide) (by decide) (by decide) (by decide) (Nat.le_of_ble_eq_true rfl) ?_
  generalize hhM7 : zrow M5 (c + 5) (va_cpy (M5.1 (c2 + 5)) (M5.1 (c + 5)) ((0 : Int32)).toNatClampNeg ((0 : Int32)).toNatClampNeg ((5 : Int32)).toNatClampNeg) = M7
  have h8 := h6 M7 hhM7.symm
  refine z_aload_n dX8_copy_56 rfl ?_
  refine z_getR dX8_copy_57 zg_X8_24 (zsC_1 hc2) rfl ?_
  refine z_iconst (v := (0 : Int32)) dX8_copy_60 rfl ?_
  refine z_aload_n dX8_copy_61 rfl ?_
  refine z_getR dX8_copy_62 zg_X8_24 (zsC_1 hc) rfl ?_
  refine z_iconst (v := (0 : Int32)) dX8_copy_65 rfl ?_
  refine z_iconst (v := (5 : Int32)) dX8_copy_66 rfl ?_
  refine z_copy dX8_copy_67 zc_X8_34 (zsC_6 hc2) (zsC_6 hc) (by decide) (by decide) (by decide) (by decide) (by decide) (Nat.le_of_ble_eq_true rfl) ?_
  generalize hhM9 : zrow M7 (c + 6) (va_cpy (M7.1 (c2 + 6)) (M7.1 (c + 6)) ((0 : Int32)).toNatClampNeg ((0 : Int32)).toNatClampNeg ((5 : Int32)).toNatClampNeg) = M9
  have h10 := h8 M9 hhM9.symm
  refine z_aload_n dX8_copy_70 rfl ?_
  refine z_getR dX8_copy_71 zg_X8_27 (zsC_1 hc2) rfl ?_
  refine z_iconst (v := (0 : Int32)) dX8_copy_74 rfl ?_
  refine z_aload_n dX8_copy_75 rfl ?_
  refine z_getR dX8_copy_76 zg_X8_27 (zsC_1 hc) rfl ?_
  refine z_iconst (v := (0 : Int32)) dX8_copy_79 rfl ?_
  refine z_iconst (v := (5 : Int32)) dX8_copy_80 rfl ?_
  refine z_copy dX8_copy_81 zc_X8_34 (zsC_7 hc2) (zsC_7 hc) (by decide) (by decide) (by decide) (by decide) (by decide) (Nat.le_of_ble_eq_true rfl) ?_
  generalize hhM11 : zrow M9 (c + 7) (va_cpy (M9.1 (c2 + 7)) (M9.1 (c + 7)) ((0 : Int32)).toNatClampNeg ((0 : Int32)).toNatClampNeg ((5 : Int32)).toNatClampNeg) = M11
  have h12 := h10 M11 hhM11.symm
  refine z_aload_n dX8_copy_84 rfl ?_
  refine z_aload_n dX8_copy_85 rfl ?_
  refine z_getI dX8_copy_86 zg_X8_30 (zsC_1 hc2) rfl ?_
  refine z_putI dX8_copy_89 zp_X8_30 (zsC_1 hc) rfl rfl rfl ?_
  generalize hhM13 : zup M11 (c + 1) 6 (M11.1 (c2 + 1) 6) = M13
  have h14 := h12 M13 hhM13.symm
  exact z_vret dX8_copy_92 rfl (by decide) h14
theorem e_X8_swap {E : zEv} {D : Nat} {post : zM → Prop} {px : String → zM → Prop} {M : zM} {x1 : Int32} {x2 : Int32}  (h : vp_in x1 5 ∧ vp_in x2 5 ∧ vp_in x1 5 ∧ ∀ M7 : zM, M7 = zup M 67 (x1).toNatClampNeg (M.1 67 (x2).toNatClampNeg) → vp_in x2 5 ∧ ∀ M11 : zM, M11 = zup M7 67 (x2).toNatClampNeg (M.1 67 (x1).toNatClampNeg) → vp_in x1 5 ∧ vp_in (M11.1 67 (x1).toNatClampNeg) 5 ∧ ∀ M17 : zM, M17 = zup M11 68 ((M11.1 67 (x1).toNatClampNeg)).toNatClampNeg x1 → vp_in x2 5 ∧ vp_in (M17.1 67 (x2).toNatClampNeg) 5 ∧ ∀ M23 : zM, M23 = zup M17 68 ((M17.1 67 (x2).toNatClampNeg)).toNatClampNeg x2 → post M23) : zCv E jX8_swap D 0 [.ref 62, .int x1, .int x2] M post px := by
  refine z_meth (by decide) (Nat.le_of_ble_eq_true rfl) ?_
  show Z E jX8_swap D 0 (zQv post px) 0 0 [.ref 62, .int x1, .int x2, zU] [] M
  refine z_aload_n dX8_swap_0 rfl ?_
  refine z_getR dX8_swap_1 zg_X8_24 zs_62 rfl ?_
  refine z_iload_n dX8_swap_4 rfl ?_
  obtain ⟨g2, h1⟩ := h
  refine z_iald dX8_swap_5 zs_67 g2 ?_
  refine z_istore_n dX8_swap_6 (by decide) (ls' := [.ref 62, .int x1, .int x2, .int (M.1 67 (x1).toNatClampNeg)]) rfl ?_
  refine z_aload_n dX8_swap_7 rfl ?_
  refine z_getR dX8_swap_8 zg_X8_24 zs_62 rfl ?_
  refine z_iload_n dX8_swap_11 rfl ?_
  refine z_aload_n dX8_swap_12 rfl ?_
  refine z_getR dX8_swap_13 zg_X8_24 zs_62 rfl ?_
  refine z_iload_n dX8_swap_16 rfl ?_
  obtain ⟨g4, h3⟩ := h1
  refine z_iald dX8_swap_17 zs_67 g4 ?_
  obtain ⟨g6, h5⟩ := h3
  refine z_iast dX8_swap_18 zs_67 g6 ?_
  generalize hhM7 : zup M 67 (x1).toNatClampNeg (M.1 67 (x2).toNatClampNeg) = M7
  have h8 := h5 M7 hhM7.symm
  refine z_aload_n dX8_swap_19 rfl ?_
  refine z_getR dX8_swap_20 zg_X8_24 zs_62 rfl ?_
  refine z_iload_n dX8_swap_23 rfl ?_
  refine z_iload_n dX8_swap_24 rfl ?_
  obtain ⟨g10, h9⟩ := h8
  refine z_iast dX8_swap_25 zs_67 g10 ?_
  generalize hhM11 : zup M7 67 (x2).toNatClampNeg (M.1 67 (x1).toNatClampNeg) = M11
  have h12 := h9 M11 hhM11.symm
  refine z_aload_n dX8_swap_26 rfl ?_
  refine z_getR dX8_swap_27 zg_X8_27 zs_62 rfl ?_
  refine z_aload_n dX8_swap_30 rfl ?_
  refine z_getR dX8_swap_31 zg_X8_24 zs_62 rfl ?_
  refine z_iload_n dX8_swap_34 rfl ?_
  obtain ⟨g14, h13⟩ := h12
  refine z_iald dX8_swap_35 zs_67 g14 ?_
  refine z_iload_n dX8_swap_36 rfl ?_
  obtain ⟨g16, h15⟩ := h13
  refine z_iast dX8_swap_37 zs_68 g16 ?_
  generalize hhM17 : zup M11 68 ((M11.1 67 (x1).toNatClampNeg)).toNatClampNeg x1 = M17
  have h18 := h15 M17 hhM17.symm
  refine z_aload_n dX8_swap_38 rfl ?_
  refine z_getR dX8_swap_39 zg_X8_27 zs_62 rfl ?_
  refine z_aload_n dX8_swap_42 rfl ?_
  refine z_getR dX8_swap_43 zg_X8_24 zs_62 rfl ?_
  refine z_iload_n dX8_swap_46 rfl ?_
  obtain ⟨g20, h19⟩ := h18
  refine z_iald dX8_swap_47 zs_67 g20 ?_
  refine z_iload_n dX8_swap_48 rfl ?_
  obtain ⟨g22, h21⟩ := h19
  refine z_iast dX8_swap_49 zs_68 g22 ?_
  generalize hhM23 : zup M17 68 ((M17.1 67 (x2).toNatClampNeg)).toNatClampNeg x2 = M23
  have h24 := h21 M23 hhM23.symm
  exact z_vret dX8_swap_50 rfl (by decide) h24
theorem e_X8_darken {E : zEv} {D : Nat} {post : zM → Prop} {px : String → zM → Prop} {M : zM} {c : Nat} {x1 : Int32} {x2 : Int32} (hc : zIsC c) (h : vp_in x1 5 ∧ vp_in x1 5 ∧ ∀ M5 : zM, M5 = zup M (c + 5) (x1).toNatClampNeg (zmin (99 : Int32) ((M.1 (c + 5) (x1).toNatClampNeg) + x2)) → post M5) : zCv E jX8_darken D 0 [.ref (c + 1), .int x1, .int x2] M post px := by
  refine z_meth (by decide) (Nat.le_of_ble_eq_true rfl) ?_
  show Z E jX8_darken D 0 (zQv post px) 0 0 [.ref (c + 1), .int x1, .int x2] [] M
  refine z_aload_n dX8_darken_0 rfl ?_
  refine z_getR dX8_darken_1 zg_X8_21 (zsC_1 hc) rfl ?_
  refine z_iload_n dX8_darken_4 rfl ?_
  refine z_bipush (v := (99 : Int32)) dX8_darken_5 rfl ?_
  refine z_aload_n dX8_darken_7 rfl ?_
  refine z_getR dX8_darken_8 zg_X8_21 (zsC_1 hc) rfl ?_
  refine z_iload_n dX8_darken_11 rfl ?_
  obtain ⟨g2, h1⟩ := h
  refine z_iald dX8_darken_12 (zsC_5 hc) g2 ?_
  refine z_iload_n dX8_darken_13 rfl ?_
  refine z_iadd dX8_darken_14 ?_
  refine z_min dX8_darken_15 zm_X8_40 (Nat.le_of_ble_eq_true rfl) (by decide) ?_
  obtain ⟨g4, h3⟩ := h1
  refine z_iast dX8_darken_18 (zsC_5 hc) g4 ?_
  generalize hhM5 : zup M (c + 5) (x1).toNatClampNeg (zmin (99 : Int32) ((M.1 (c + 5) (x1).toNatClampNeg) + x2)) = M5
  have h6 := h3 M5 hhM5.symm
  exact z_vret dX8_darken_19 rfl (by decide) h6
def w_X8_allShades_4 (E : zEv) (D : Nat) (post : Int32 → zM → Prop) (px : String → zM → Prop) (c : Nat) (y1 : Int32) (y2 : Int32) (M : zM) : Prop := Z E jX8_allShades D 0 (zQi post px) 4 0 [.ref (c + 1), .int y1, .int y2] [] M
theorem e_X8_allShades {E : zEv} {D : Nat} {post : Int32 → zM → Prop} {px : String → zM → Prop} {M : zM} {c : Nat} (hc : zIsC c) (h : w_X8_allShades_4 E D post px c (0 : Int32) (0 : Int32) M) : zCi E jX8_allShades D 0 [.ref (c + 1)] M post px := by
  refine z_meth (by decide) (Nat.le_of_ble_eq_true rfl) ?_
  show Z E jX8_allShades D 0 (zQi post px) 0 0 [.ref (c + 1), zU, zU] [] M
  refine z_iconst (v := (0 : Int32)) dX8_allShades_0 rfl ?_
  refine z_istore_n dX8_allShades_1 (by decide) (ls' := [.ref (c + 1), .int (0 : Int32), zU]) rfl ?_
  refine z_iconst (v := (0 : Int32)) dX8_allShades_2 rfl ?_
  refine z_istore_n dX8_allShades_3 (by decide) (ls' := [.ref (c + 1), .int (0 : Int32), .int (0 : Int32)]) rfl ?_
  exact h
theorem t_X8_allShades_4 {E : zEv} {D : Nat} {post : Int32 → zM → Prop} {px : String → zM → Prop} {M : zM} {c : Nat} (hc : zIsC c) {y1 : Int32} {y2 : Int32} (h : (((M.1 (c + 1) 6) ≤ y2 → post y1 M) ∧ (¬ (M.1 (c + 1) 6) ≤ y2 → vp_in y2 5 ∧ w_X8_allShades_4 E D post px c (y1 + (M.1 (c + 5) (y2).toNatClampNeg)) (y2 + (1 : Int32)) M))) : w_X8_allShades_4 E D post px c y1 y2 M := by
  show Z E jX8_allShades D 0 (zQi post px) 4 0 [.ref (c + 1), .int y1, .int y2] [] M
  refine z_iload_n dX8_allShades_4 rfl ?_
  refine z_aload_n dX8_allShades_5 rfl ?_
  refine z_getI dX8_allShades_6 zg_X8_30 (zsC_1 hc) rfl ?_
  refine z_icmp_ge (tgt := 27) dX8_allShades_9 (by decide) (fun g1 => ?_) (fun g1 => ?_)
  · have h2 := h.1 g1
    refine z_iload_n dX8_allShades_27 rfl ?_
    exact z_iret dX8_allShades_28 rfl rfl (by decide) h2
  · have h3 := h.2 g1
    refine z_iload_n dX8_allShades_12 rfl ?_
    refine z_aload_n dX8_allShades_13 rfl ?_
    refine z_getR dX8_allShades_14 zg_X8_21 (zsC_1 hc) rfl ?_
    refine z_iload_n dX8_allShades_17 rfl ?_
    obtain ⟨g5, h4⟩ := h3
    refine z_iald dX8_allShades_18 (zsC_5 hc) g5 ?_
    refine z_iadd dX8_allShades_19 ?_
    refine z_istore_n dX8_allShades_20 (by decide) (ls' := [.ref (c + 1), .int (y1 + (M.1 (c + 5) (y2).toNatClampNeg)), .int y2]) rfl ?_
    refine z_iinc dX8_allShades_21 rfl (by decide) (ls' := [.ref (c + 1), .int (y1 + (M.1 (c + 5) (y2).toNatClampNeg)), .int (y2 + (1 : Int32))]) rfl ?_
    refine z_goto (tgt := 4) dX8_allShades_24 (by decide) ?_
    exact h4
def w_X8_redOnes_4 (E : zEv) (D : Nat) (post : Int32 → zM → Prop) (px : String → zM → Prop) (c : Nat) (y1 : Int32) (y2 : Int32) (M : zM) : Prop := Z E jX8_redOnes D 0 (zQi post px) 4 0 [.ref (c + 1), .int y1, .int y2] [] M
def w_X8_redOnes_29 (E : zEv) (D : Nat) (post : Int32 → zM → Prop) (px : String → zM → Prop) (c : Nat) (y1 : Int32) (y2 : Int32) (M : zM) : Prop := Z E jX8_redOnes D 0 (zQi post px) 29 0 [.ref (c + 1), .int y1, .int y2] [] M
theorem e_X8_redOnes {E : zEv} {D : Nat} {post : Int32 → zM → Prop} {px : String → zM → Prop} {M : zM} {c : Nat} (hc : zIsC c) (h : w_X8_redOnes_4 E D post px c (0 : Int32) (0 : Int32) M) : zCi E jX8_redOnes D 0 [.ref (c + 1)] M post px := by
  refine z_meth (by decide) (Nat.le_of_ble_eq_true rfl) ?_
  show Z E jX8_redOnes D 0 (zQi post px) 0 0 [.ref (c + 1), zU, zU] [] M
  refine z_iconst (v := (0 : Int32)) dX8_redOnes_0 rfl ?_
  refine z_istore_n dX8_redOnes_1 (by decide) (ls' := [.ref (c + 1), .int (0 : Int32), zU]) rfl ?_
  refine z_iconst (v := (0 : Int32)) dX8_redOnes_2 rfl ?_
  refine z_istore_n dX8_redOnes_3 (by decide) (ls' := [.ref (c + 1), .int (0 : Int32), .int (0 : Int32)]) rfl ?_
  exact h
theorem t_X8_redOnes_4 {E : zEv} {D : Nat} {post : Int32 → zM → Prop} {px : String → zM → Prop} {M : zM} {c : Nat} (hc : zIsC c) {y1 : Int32} {y2 : Int32} (h : (((M.1 (c + 1) 6) ≤ y2 → post y1 M) ∧ (¬ (M.1 (c + 1) 6) ≤ y2 → vp_in y2 5 ∧ (((M.1 (c + 5) (y2).toNatClampNeg) < (50 : Int32) → w_X8_redOnes_29 E D post px c y1 y2 M) ∧ (¬ (M.1 (c + 5) (y2).toNatClampNeg) < (50 : Int32) → w_X8_redOnes_29 E D post px c (y1 ||| ((1 : Int32) <<< (y2 &&& 31))) y2 M))))) : w_X8_redOnes_4 E D post px c y1 y2 M := by
  show Z E jX8_redOnes D 0 (zQi post px) 4 0 [.ref (c + 1), .int y1, .int y2] [] M
  refine z_iload_n dX8_redOnes_4 rfl ?_
  refine z_aload_n dX8_redOnes_5 rfl ?_
  refine z_getI dX8_redOnes_6 zg_X8_30 (zsC_1 hc) rfl ?_
  refine z_icmp_ge (tgt := 35) dX8_redOnes_9 (by decide) (fun g1 => ?_) (fun g1 => ?_)
  · have h2 := h.1 g1
    refine z_iload_n dX8_redOnes_35 rfl ?_
    exact z_iret dX8_redOnes_36 rfl rfl (by decide) h2
  · have h3 := h.2 g1
    refine z_aload_n dX8_redOnes_12 rfl ?_
    refine z_getR dX8_redOnes_13 zg_X8_21 (zsC_1 hc) rfl ?_
    refine z_iload_n dX8_redOnes_16 rfl ?_
    obtain ⟨g5, h4⟩ := h3
    refine z_iald dX8_redOnes_17 (zsC_5 hc) g5 ?_
    refine z_bipush (v := (50 : Int32)) dX8_redOnes_18 rfl ?_
    refine z_icmp_lt (tgt := 29) dX8_redOnes_20 (by decide) (fun g6 => ?_) (fun g6 => ?_)
    · have h7 := h4.1 g6
      exact h7
    · have h8 := h4.2 g6
      refine z_iload_n dX8_redOnes_23 rfl ?_
      refine z_iconst (v := (1 : Int32)) dX8_redOnes_24 rfl ?_
      refine z_iload_n dX8_redOnes_25 rfl ?_
      refine z_ishl dX8_redOnes_26 ?_
      refine z_ior dX8_redOnes_27 ?_
      refine z_istore_n dX8_redOnes_28 (by decide) (ls' := [.ref (c + 1), .int (y1 ||| ((1 : Int32) <<< (y2 &&& 31))), .int y2]) rfl ?_
      exact h8
theorem t_X8_redOnes_29 {E : zEv} {D : Nat} {post : Int32 → zM → Prop} {px : String → zM → Prop} {M : zM} {c : Nat} (hc : zIsC c) {y1 : Int32} {y2 : Int32} (h : w_X8_redOnes_4 E D post px c y1 (y2 + (1 : Int32)) M) : w_X8_redOnes_29 E D post px c y1 y2 M := by
  show Z E jX8_redOnes D 0 (zQi post px) 29 0 [.ref (c + 1), .int y1, .int y2] [] M
  refine z_iinc dX8_redOnes_29 rfl (by decide) (ls' := [.ref (c + 1), .int y1, .int (y2 + (1 : Int32))]) rfl ?_
  refine z_goto (tgt := 4) dX8_redOnes_32 (by decide) ?_
  exact h
