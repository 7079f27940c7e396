theorem e_X3_copy {E : zEv} {D : Nat} {post : zM → Prop} {px : String → zM → Prop} {M : zM} {c : Nat} {c2 : Nat} (hc : zIsC c) (hc2 : zIsC c2) (h : zCv E jX8_copy D 0 [.ref (c + 1), .ref (c2 + 1)] M (fun M1 => zCv E jX7_copy D 0 [.ref (c + 8), .ref (c2 + 8)] M1 (fun M3 => ∀ M5 : zM, M5 = zrow M3 (c + 10) (va_cpy (M3.1 (c2 + 10)) (M3.1 (c + 10)) ((0 : Int32)).toNatClampNeg ((0 : Int32)).toNatClampNeg ((6 : Int32)).toNatClampNeg) → ∀ M7 : zM, M7 = zrow M5 (c + 11) (va_cpy (M5.1 (c2 + 11)) (M5.1 (c + 11)) ((0 : Int32)).toNatClampNeg ((0 : Int32)).toNatClampNeg ((6 : Int32)).toNatClampNeg) → ∀ M9 : zM, M9 = zrow M7 (c + 12) (va_cpy (M7.1 (c2 + 12)) (M7.1 (c + 12)) ((0 : Int32)).toNatClampNeg ((0 : Int32)).toNatClampNeg ((8 : Int32)).toNatClampNeg) → ∀ M11 : zM, M11 = zrow M9 (c + 13) (va_cpy (M9.1 (c2 + 13)) (M9.1 (c + 13)) ((0 : Int32)).toNatClampNeg ((0 : Int32)).toNatClampNeg ((4 : Int32)).toNatClampNeg) → ∀ M13 : zM, M13 = zup M11 c 6 (M11.1 c2 6) → ∀ M15 : zM, M15 = zup M13 c 7 (M13.1 c2 7) → ∀ M17 : zM, M17 = zup M15 c 8 (M15.1 c2 8) → ∀ M19 : zM, M19 = zup M17 c 9 (M17.1 c2 9) → ∀ M21 : zM, M21 = zup M19 c 10 (M19.1 c2 10) → ∀ M23 : zM, M23 = zup M21 c 11 (M21.1 c2 11) → ∀ M25 : zM, M25 = zup M23 c 12 (M23.1 c2 12) → ∀ M27 : zM, M27 = zup M25 c 13 (M25.1 c2 13) → ∀ M29 : zM, M29 = zup M27 c 14 (M27.1 c2 14) → ∀ M31 : zM, M31 = zup M29 c 15 (M29.1 c2 15) → post M31) px) px) : zCv E jX3_copy (D + 1) 0 [.ref c, .ref c2] M post px := by
  refine z_meth (by decide) (Nat.le_of_ble_eq_true rfl) ?_
  show Z E jX3_copy (D + 1) 0 (zQv post px) 0 0 [.ref c, .ref c2] [] M
  refine z_aload_n dX3_copy_0 rfl ?_
  refine z_getR dX3_copy_1 zg_X3_12 (zsC_0 hc) rfl ?_
  refine z_aload_n dX3_copy_4 rfl ?_
  refine z_getR dX3_copy_5 zg_X3_12 (zsC_0 hc2) rfl ?_
  refine z_callVv (As := [.ref (c2 + 1)]) (st := []) dX3_copy_8 zi_X3_69 rfl rfl (zsC_1 hc) rfl rfl (Nat.le_of_ble_eq_true rfl) (by decide) (fun _ _ hx => hx) h ?_
  intro M1 h2
  refine z_aload_n dX3_copy_11 rfl ?_
  refine z_getR dX3_copy_12 zg_X3_21 (zsC_0 hc) rfl ?_
  refine z_aload_n dX3_copy_15 rfl ?_
  refine z_getR dX3_copy_16 zg_X3_21 (zsC_0 hc2) rfl ?_
  refine z_callVv (As := [.ref (c2 + 8)]) (st := []) dX3_copy_19 zi_X3_73 rfl rfl (zsC_8 hc) rfl rfl (Nat.le_of_ble_eq_true rfl) (by decide) (fun _ _ hx => hx) h2 ?_
  intro M3 h4
  refine z_aload_n dX3_copy_22 rfl ?_
  refine z_getR dX3_copy_23 zg_X3_25 (zsC_0 hc2) rfl ?_
  refine z_iconst (v := (0 : Int32)) dX3_copy_26 rfl ?_
  refine z_aload_n dX3_copy_27 rfl ?_
  refine z_getR dX3_copy_28 zg_X3_25 (zsC_0 hc) rfl ?_
  refine z_iconst (v := (0 : Int32)) dX3_copy_31 rfl ?_
  refine z_bipush (v := (6 : Int32)) dX3_copy_32 rfl ?_
  refine z_copy dX3_copy_34 zc_X3_76 (zsC_10 hc2) (zsC_10 hc) (by decide) (by decide) (by decide) (by decide) (by decide) (Nat.le_of_ble_eq_true rfl) ?_
  generalize hhM5 : zrow M3 (c + 10) (va_cpy (M3.1 (c2 + 10)) (M3.1 (c + 10)) ((0 : Int32)).toNatClampNeg ((0 : Int32)).toNatClampNeg ((6 : Int32)).toNatClampNeg) = M5
  have h6 := h4 M5 hhM5.symm
  refine z_aload_n dX3_copy_37 rfl ?_
  refine z_getR dX3_copy_38 zg_X3_29 (zsC_0 hc2) rfl ?_
  refine z_iconst (v := (0 : Int32)) dX3_copy_41 rfl ?_
  refine z_aload_n dX3_copy_42 rfl ?_
  refine z_getR dX3_copy_43 zg_X3_29 (zsC_0 hc) rfl ?_
  refine z_iconst (v := (0 : Int32)) dX3_copy_46 rfl ?_
  refine z_bipush (v := (6 : Int32)) dX3_copy_47 rfl ?_
  refine z_copy dX3_copy_49 zc_X3_76 (zsC_11 hc2) (zsC_11 hc) (by decide) (by decide) (by decide) (by decide) (by decide) (Nat.le_of_ble_eq_true rfl) ?_
  generalize hhM7 : zrow M5 (c + 11) (va_cpy (M5.1 (c2 + 11)) (M5.1 (c + 11)) ((0 : Int32)).toNatClampNeg ((0 : Int32)).toNatClampNeg ((6 : Int32)).toNatClampNeg) = M7
  have h8 := h6 M7 hhM7.symm
  refine z_aload_n dX3_copy_52 rfl ?_
  refine z_getR dX3_copy_53 zg_X3_32 (zsC_0 hc2) rfl ?_
  refine z_iconst (v := (0 : Int32)) dX3_copy_56 rfl ?_
  refine z_aload_n dX3_copy_57 rfl ?_
  refine z_getR dX3_copy_58 zg_X3_32 (zsC_0 hc) rfl ?_
  refine z_iconst (v := (0 : Int32)) dX3_copy_61 rfl ?_
  refine z_bipush (v := (8 : Int32)) dX3_copy_62 rfl ?_
  refine z_copy dX3_copy_64 zc_X3_76 (zsC_12 hc2) (zsC_12 hc) (by decide) (by decide) (by decide) (by decide) (by decide) (Nat.le_of_ble_eq_true rfl) ?_
  generalize hhM9 : zrow M7 (c + 12) (va_cpy (M7.1 (c2 + 12)) (M7.1 (c + 12)) ((0 : Int32)).toNatClampNeg ((0 : Int32)).toNatClampNeg ((8 : Int32)).toNatClampNeg) = M9
  have h10 := h8 M9 hhM9.symm
  refine z_aload_n dX3_copy_67 rfl ?_
  refine z_getR dX3_copy_68 zg_X3_35 (zsC_0 hc2) rfl ?_
  refine z_iconst (v := (0 : Int32)) dX3_copy_71 rfl ?_
  refine z_aload_n dX3_copy_72 rfl ?_
  refine z_getR dX3_copy_73 zg_X3_35 (zsC_0 hc) rfl ?_
  refine z_iconst (v := (0 : Int32)) dX3_copy_76 rfl ?_
  refine z_iconst (v := (4 : Int32)) dX3_copy_77 rfl ?_
  refine z_copy dX3_copy_78 zc_X3_76 (zsC_13 hc2) (zsC_13 hc) (by decide) (by decide) (by decide) (by decide) (by decide) (Nat.le_of_ble_eq_true rfl) ?_
  generalize hhM11 : zrow M9 (c + 13) (va_cpy (M9.1 (c2 + 13)) (M9.1 (c + 13)) ((0 : Int32)).toNatClampNeg ((0 : Int32)).toNatClampNeg ((4 : Int32)).toNatClampNeg) = M11
  have h12 := h10 M11 hhM11.symm
  refine z_aload_n dX3_copy_81 rfl ?_
  refine z_aload_n dX3_copy_82 rfl ?_
  refine z_getI dX3_copy_83 zg_X3_38 (zsC_0 hc2) rfl ?_
  refine z_putI dX3_copy_86 zp_X3_38 (zsC_0 hc) rfl rfl rfl ?_
  generalize hhM13 : zup M11 c 6 (M11.1 c2 6) = M13
  have h14 := h12 M13 hhM13.symm
  refine z_aload_n dX3_copy_89 rfl ?_
  refine z_aload_n dX3_copy_90 rfl ?_
  refine z_getI dX3_copy_91 zg_X3_42 (zsC_0 hc2) rfl ?_
  refine z_putI dX3_copy_94 zp_X3_42 (zsC_0 hc) rfl rfl rfl ?_
  generalize hhM15 : zup M13 c 7 (M13.1 c2 7) = M15
  have h16 := h14 M15 hhM15.symm
  refine z_aload_n dX3_copy_97 rfl ?_
  refine z_aload_n dX3_copy_98 rfl ?_
  refine z_getI dX3_copy_99 zg_X3_45 (zsC_0 hc2) rfl ?_
  refine z_putI dX3_copy_102 zp_X3_45 (zsC_0 hc) rfl rfl rfl ?_
  generalize hhM17 : zup M15 c 8 (M15.1 c2 8) = M17
  have h18 := h16 M17 hhM17.symm
  refine z_aload_n dX3_copy_105 rfl ?_
  refine z_aload_n dX3_copy_106 rfl ?_
  refine z_getI dX3_copy_107 zg_X3_48 (zsC_0 hc2) rfl ?_
  refine z_putI dX3_copy_110 zp_X3_48 (zsC_0 hc) rfl rfl rfl ?_
  generalize hhM19 : zup M17 c 9 (M17.1 c2 9) = M19
  have h20 := h18 M19 hhM19.symm
  refine z_aload_n dX3_copy_113 rfl ?_
  refine z_aload_n dX3_copy_114 rfl ?_
  refine z_getI dX3_copy_115 zg_X3_51 (zsC_0 hc2) rfl ?_
  refine z_putI dX3_copy_118 zp_X3_51 (zsC_0 hc) rfl rfl rfl ?_
  generalize hhM21 : zup M19 c 10 (M19.1 c2 10) = M21
  have h22 := h20 M21 hhM21.symm
  refine z_aload_n dX3_copy_121 rfl ?_
  refine z_aload_n dX3_copy_122 rfl ?_
  refine z_getI dX3_copy_123 zg_X3_54 (zsC_0 hc2) rfl ?_
  refine z_putI dX3_copy_126 zp_X3_54 (zsC_0 hc) rfl rfl rfl ?_
  generalize hhM23 : zup M21 c 11 (M21.1 c2 11) = M23
  have h24 := h22 M23 hhM23.symm
  refine z_aload_n dX3_copy_129 rfl ?_
  refine z_aload_n dX3_copy_130 rfl ?_
  refine z_getI dX3_copy_131 zg_X3_57 (zsC_0 hc2) rfl ?_
  refine z_putI dX3_copy_134 zp_X3_57 (zsC_0 hc) rfl rfl rfl ?_
  generalize hhM25 : zup M23 c 12 (M23.1 c2 12) = M25
  have h26 := h24 M25 hhM25.symm
  refine z_aload_n dX3_copy_137 rfl ?_
  refine z_aload_n dX3_copy_138 rfl ?_
  refine z_getI dX3_copy_139 zg_X3_60 (zsC_0 hc2) rfl ?_
  refine z_putI dX3_copy_142 zp_X3_60 (zsC_0 hc) rfl rfl rfl ?_
  generalize hhM27 : zup M25 c 13 (M25.1 c2 13) = M27
  have h28 := h26 M27 hhM27.symm
  refine z_aload_n dX3_copy_145 rfl ?_
  refine z_aload_n dX3_copy_146 rfl ?_
  refine z_getI dX3_copy_147 zg_X3_63 (zsC_0 hc2) rfl ?_
  refine z_putI dX3_copy_150 zp_X3_63 (zsC_0 hc) rfl rfl rfl ?_
  generalize hhM29 : zup M27 c 14 (M27.1 c2 14) = M29
  have h30 := h28 M29 hhM29.symm
  refine z_aload_n dX3_copy_153 rfl ?_
  refine z_aload_n dX3_copy_154 rfl ?_
  refine z_getI dX3_copy_155 zg_X3_66 (zsC_0 hc2) rfl ?_
  refine z_putI dX3_copy_158 zp_X3_66 (zsC_0 hc) rfl rfl rfl ?_
  generalize hhM31 : zup M29 c 15 (M29.1 c2 15) = M31
  have h32 := h30 M31 hhM31.symm
  exact z_vret dX3_copy_161 rfl (by decide) h32
theorem e_X3_draw {E : zEv} {D : Nat} {post : Int32 → zM → Prop} {px : String → zM → Prop} {M : zM} {c : Nat} (hc : zIsC c) (h : ∀ M1 : zM, M1 = zup M c 15 (((1103515245 : Int32) * (M.1 c 15)) + (12345 : Int32)) → post ((zushr (M1.1 c 15) (16 : Int32)) &&& (32767 : Int32)) M1) : zCi E jX3_draw D 0 [.ref c] M post px := by
  refine z_meth (by decide) (Nat.le_of_ble_eq_true rfl) ?_
  show Z E jX3_draw D 0 (zQi post px) 0 0 [.ref c] [] M
  refine z_aload_n dX3_draw_0 rfl ?_
  refine z_ldc (v := (1103515245 : Int32)) dX3_draw_1 zw_1071 ?_
  refine z_aload_n dX3_draw_3 rfl ?_
  refine z_getI dX3_draw_4 zg_X3_66 (zsC_0 hc) rfl ?_
  refine z_imul dX3_draw_7 ?_
  refine z_sipush (v := (12345 : Int32)) dX3_draw_8 rfl ?_
  refine z_iadd dX3_draw_11 ?_
  refine z_putI dX3_draw_12 zp_X3_66 (zsC_0 hc) rfl rfl rfl ?_
  generalize hhM1 : zup M c 15 (((1103515245 : Int32) * (M.1 c 15)) + (12345 : Int32)) = M1
  have h2 := h M1 hhM1.symm
  refine z_aload_n dX3_draw_15 rfl ?_
  refine z_getI dX3_draw_16 zg_X3_66 (zsC_0 hc) rfl ?_
  refine z_bipush (v := (16 : Int32)) dX3_draw_19 rfl ?_
  refine z_iushr (v := (zushr (M1.1 c 15) (16 : Int32))) dX3_draw_21 rfl ?_
  refine z_sipush (v := (32767 : Int32)) dX3_draw_22 rfl ?_
  refine z_iand dX3_draw_25 ?_
  exact z_iret dX3_draw_26 rfl rfl (by decide) h2
theorem e_X3_allThings {E : zEv} {D : Nat} {post : Int32 → zM → Prop} {px : String → zM → Prop} {M : zM} {c : Nat} (hc : zIsC c) (h : post (((1 : Int32) <<< ((M.1 c 6) &&& 31)) - (1 : Int32)) M) : zCi E jX3_allThings D 0 [.ref c] M post px := by
  refine z_meth (by decide) (Nat.le_of_ble_eq_true rfl) ?_
  show Z E jX3_allThings D 0 (zQi post px) 0 0 [.ref c] [] M
  refine z_iconst (v := (1 : Int32)) dX3_allThings_0 rfl ?_
  refine z_aload_n dX3_allThings_1 rfl ?_
  refine z_getI dX3_allThings_2 zg_X3_38 (zsC_0 hc) rfl ?_
  refine z_ishl dX3_allThings_5 ?_
  refine z_iconst (v := (1 : Int32)) dX3_allThings_6 rfl ?_
  refine z_isub dX3_allThings_7 ?_
  exact z_iret dX3_allThings_8 rfl rfl (by decide) h
theorem e_X3_worldCount {E : zEv} {D : Nat} {post : Int32 → zM → Prop} {px : String → zM → Prop} {M : zM} {c : Nat} (hc : zIsC c) (h : post ((1 : Int32) <<< ((M.1 c 6) &&& 31)) M) : zCi E jX3_worldCount D 0 [.ref c] M post px := by
  refine z_meth (by decide) (Nat.le_of_ble_eq_true rfl) ?_
  show Z E jX3_worldCount D 0 (zQi post px) 0 0 [.ref c] [] M
  refine z_iconst (v := (1 : Int32)) dX3_worldCount_0 rfl ?_
  refine z_aload_n dX3_worldCount_1 rfl ?_
  refine z_getI dX3_worldCount_2 zg_X3_38 (zsC_0 hc) rfl ?_
  refine z_ishl dX3_worldCount_5 ?_
  exact z_iret dX3_worldCount_6 rfl rfl (by decide) h
def w_X3_touching_4 (E : zEv) (D : Nat) (post : Int32 → zM → Prop) (px : String → zM → Prop) (c : Nat) (y1 : Int32) (y2 : Int32) (y3 : Int32) (M : zM) : Prop := Z E jX3_touching D 0 (zQi post px) 4 0 [.ref c, .int y1, .int y2, .int y3] [] M
theorem e_X3_touching {E : zEv} {D : Nat} {post : Int32 → zM → Prop} {px : String → zM → Prop} {M : zM} {c : Nat} {x1 : Int32} (hc : zIsC c) (h : w_X3_touching_4 E D post px c x1 (0 : Int32) (0 : Int32) M) : zCi E jX3_touching D 0 [.ref c, .int x1] M post px := by
  refine z_meth (by decide) (Nat.le_of_ble_eq_true rfl) ?_
  show Z E jX3_touching D 0 (zQi post px) 0 0 [.ref c, .int x1, zU, zU] [] M
  refine z_iconst (v := (0 : Int32)) dX3_touching_0 rfl ?_
  refine z_istore_n dX3_touching_1 (by decide) (ls' := [.ref c, .int x1, .int (0 : Int32), zU]) rfl ?_
  refine z_iconst (v := (0 : Int32)) dX3_touching_2 rfl ?_
  refine z_istore_n dX3_touching_3 (by decide) (ls' := [.ref c, .int x1, .int (0 : Int32), .int (0 : Int32)]) rfl ?_
  exact h
theorem t_X3_touching_4 {E : zEv} {D : Nat} {post : Int32 → zM → Prop} {px : String → zM → Prop} {M : zM} {c : Nat} (hc : zIsC c) {y1 : Int32} {y2 : Int32} {y3 : Int32} (h : (((M.1 c 6) ≤ y3 → post y2 M) ∧ (¬ (M.1 c 6) ≤ y3 → vp_in y3 6 ∧ w_X3_touching_4 E D post px c y1 (y2 ||| ((((M.1 (c + 11) (y3).toNatClampNeg) >>> (y1 &&& 31)) &&& (1 : Int32)) <<< (y3 &&& 31))) (y3 + (1 : Int32)) M))) : w_X3_touching_4 E D post px c y1 y2 y3 M := by
  show Z E jX3_touching D 0 (zQi post px) 4 0 [.ref c, .int y1, .int y2, .int y3] [] M
  refine z_iload_n dX3_touching_4 rfl ?_
  refine z_aload_n dX3_touching_5 rfl ?_
  refine z_getI dX3_touching_6 zg_X3_38 (zsC_0 hc) rfl ?_
  refine z_icmp_ge (tgt := 33) dX3_touching_9 (by decide) (fun g1 => ?_) (fun g1 => ?_)
  · have h2 := h.1 g1
    refine z_iload_n dX3_touching_33 rfl ?_
    exact z_iret dX3_touching_34 rfl rfl (by decide) h2
  · have h3 := h.2 g1
    refine z_iload_n dX3_touching_12 rfl ?_
    refine z_aload_n dX3_touching_13 rfl ?_
    refine z_getR dX3_touching_14 zg_X3_29 (zsC_0 hc) rfl ?_
    refine z_iload_n dX3_touching_17 rfl ?_
    obtain ⟨g5, h4⟩ := h3
    refine z_iald dX3_touching_18 (zsC_11 hc) g5 ?_
    refine z_iload_n dX3_touching_19 rfl ?_
    refine z_ishr dX3_touching_20 ?_
    refine z_iconst (v := (1 : Int32)) dX3_touching_21 rfl ?_
    refine z_iand dX3_touching_22 ?_
    refine z_iload_n dX3_touching_23 rfl ?_
    refine z_ishl dX3_touching_24 ?_
    refine z_ior dX3_touching_25 ?_
    refine z_istore_n dX3_touching_26 (by decide) (ls' := [.ref c, .int y1, .int (y2 ||| ((((M.1 (c + 11) (y3).toNatClampNeg) >>> (y1 &&& 31)) &&& (1 : Int32)) <<< (y3 &&& 31))), .int y3]) rfl ?_
    refine z_iinc dX3_touching_27 rfl (by decide) (ls' := [.ref c, .int y1, .int (y2 ||| ((((M.1 (c + 11) (y3).toNatClampNeg) >>> (y1 &&& 31)) &&& (1 : Int32)) <<< (y3 &&& 31))), .int (y3 + (1 : Int32))]) rfl ?_
    refine z_goto (tgt := 4) dX3_touching_30 (by decide) ?_
    exact h4
def w_X3_leaning_4 (E : zEv) (D : Nat) (post : Int32 → zM → Prop) (px : String → zM → Prop) (c : Nat) (y1 : Int32) (y2 : Int32) (y3 : Int32) (M : zM) : Prop := Z E jX3_leaning D 0 (zQi post px) 4 0 [.ref c, .int y1, .int y2, .int y3] [] M
theorem e_X3_leaning {E : zEv} {D : Nat} {post : Int32 → zM → Prop} {px : String → zM → Prop} {M : zM} {c : Nat} {x1 : Int32} (hc : zIsC c) (h : w_X3_leaning_4 E D post px c x1 (0 : Int32) (0 : Int32) M) : zCi E jX3_leaning D 0 [.ref c, .int x1] M post px := by
  refine z_meth (by decide) (Nat.le_of_ble_eq_true rfl) ?_
  show Z E jX3_leaning D 0 (zQi post px) 0 0 [.ref c, .int x1, zU, zU] [] M
  refine z_iconst (v := (0 : Int32)) dX3_leaning_0 rfl ?_
  refine z_istore_n dX3_leaning_1 (by decide) (ls' := [.ref c, .int x1, .int (0 : Int32), zU]) rfl ?_
  refine z_iconst (v := (0 : Int32)) dX3_leaning_2 rfl ?_
  refine z_istore_n dX3_leaning_3 (by decide) (ls' := [.ref c, .int x1, .int (0 : Int32), .int (0 : Int32)]) rfl ?_
  exact h
theorem t_X3_leaning_4 {E : zEv} {D : Nat} {post : Int32 → zM → Prop} {px : String → zM → Prop} {M : zM} {c : Nat} (hc : zIsC c) {y1 : Int32} {y2 : Int32} {y3 : Int32} (h : (((M.1 c 7) ≤ y3 → post y2 M) ∧ (¬ (M.1 c 7) ≤ y3 → vp_in y3 8 ∧ w_X3_leaning_4 E D post px c y1 (y2 ||| ((((M.1 (c + 12) (y3).toNatClampNeg) >>> (y1 &&& 31)) &&& (1 : Int32)) <<< (y3 &&& 31))) (y3 + (1 : Int32)) M))) : w_X3_leaning_4 E D post px c y1 y2 y3 M := by
  show Z E jX3_leaning D 0 (zQi post px) 4 0 [.ref c, .int y1, .int y2, .int y3] [] M
  refine z_iload_n dX3_leaning_4 rfl ?_
  refine z_aload_n dX3_leaning_5 rfl ?_
  refine z_getI dX3_leaning_6 zg_X3_42 (zsC_0 hc) rfl ?_
  refine z_icmp_ge (tgt := 33) dX3_leaning_9 (by decide) (fun g1 => ?_) (fun g1 => ?_)
  · have h2 := h.1 g1
    refine z_iload_n dX3_leaning_33 rfl ?_
    exact z_iret dX3_leaning_34 rfl rfl (by decide) h2
  · have h3 := h.2 g1
    refine z_iload_n dX3_leaning_12 rfl ?_
    refine z_aload_n dX3_leaning_13 rfl ?_
    refine z_getR dX3_leaning_14 zg_X3_32 (zsC_0 hc) rfl ?_
    refine z_iload_n dX3_leaning_17 rfl ?_
    obtain ⟨g5, h4⟩ := h3
    refine z_iald dX3_leaning_18 (zsC_12 hc) g5 ?_
    refine z_iload_n dX3_leaning_19 rfl ?_
    refine z_ishr dX3_leaning_20 ?_
    refine z_iconst (v := (1 : Int32)) dX3_leaning_21 rfl ?_
    refine z_iand dX3_leaning_22 ?_
    refine z_iload_n dX3_leaning_23 rfl ?_
    refine z_ishl dX3_leaning_24 ?_
    refine z_ior dX3_leaning_25 ?_
    refine z_istore_n dX3_leaning_26 (by decide) (ls' := [.ref c, .int y1, .int (y2 ||| ((((M.1 (c + 12) (y3).toNatClampNeg) >>> (y1 &&& 31)) &&& (1 : Int32)) <<< (y3 &&& 31))), .int y3]) rfl ?_
    refine z_iinc dX3_leaning_27 rfl (by decide) (ls' := [.ref c, .int y1, .int (y2 ||| ((((M.1 (c + 12) (y3).toNatClampNeg) >>> (y1 &&& 31)) &&& (1 : Int32)) <<< (y3 &&& 31))), .int (y3 + (1 : Int32))]) rfl ?_
    refine z_goto (tgt := 4) dX3_leaning_30 (by decide) ?_
    exact h4
def w_X3_weighs_16 (E : zEv) (D : Nat) (post : Int32 → zM → Prop) (px : String → zM → Prop) (c : Nat) (y2 : Int32) (y4 : Int32) (y5 : Int32) (y6 : Int32) (M : zM) : Prop := Z E jX3_weighs D 0 (zQi post px) 16 0 [.ref c, zU, .int y2, zU, .int y4, .int y5, .int y6] [] M
def w_X3_weighs_57 (E : zEv) (D : Nat) (post : Int32 → zM → Prop) (px : String → zM → Prop) (c : Nat) (y2 : Int32) (y4 : Int32) (y5 : Int32) (y6 : Int32) (M : zM) : Prop := Z E jX3_weighs D 0 (zQi post px) 57 0 [.ref c, zU, .int y2, zU, .int y4, .int y5, .int y6] [] M
theorem e_X3_weighs {E : zEv} {D : Nat} {post : Int32 → zM → Prop} {px : String → zM → Prop} {M : zM} {c : Nat} {x1 : Int32} {x2 : Int32} {x3 : Int32} (hc : zIsC c) (h : vp_in x1 8 ∧ w_X3_weighs_16 E D post px c x2 ((M.1 (c + 12) (x1).toNatClampNeg) &&& x3) (0 : Int32) (0 : Int32) M) : zCi E jX3_weighs D 0 [.ref c, .int x1, .int x2, .int x3] M post px := by
  refine z_meth (by decide) (Nat.le_of_ble_eq_true rfl) ?_
  show Z E jX3_weighs D 0 (zQi post px) 0 0 [.ref c, .int x1, .int x2, .int x3, zU, zU, zU] [] M
  refine z_aload_n dX3_weighs_0 rfl ?_
  refine z_getR dX3_weighs_1 zg_X3_32 (zsC_0 hc) rfl ?_
  refine z_iload_n dX3_weighs_4 rfl ?_
  obtain ⟨g2, h1⟩ := h
  refine z_iald dX3_weighs_5 (zsC_12 hc) g2 ?_
  refine z_iload_n dX3_weighs_6 rfl ?_
  refine z_iand dX3_weighs_7 ?_
  refine z_istore dX3_weighs_8 (by decide) (ls' := [.ref c, .int x1, .int x2, .int x3, .int ((M.1 (c + 12) (x1).toNatClampNeg) &&& x3), zU, zU]) rfl ?_
  refine z_iconst (v := (0 : Int32)) dX3_weighs_10 rfl ?_
  refine z_istore dX3_weighs_11 (by decide) (ls' := [.ref c, .int x1, .int x2, .int x3, .int ((M.1 (c + 12) (x1).toNatClampNeg) &&& x3), .int (0 : Int32), zU]) rfl ?_
  refine z_iconst (v := (0 : Int32)) dX3_weighs_13 rfl ?_
  refine z_istore dX3_weighs_14 (by decide) (ls' := [.ref c, .int x1, .int x2, .int x3, .int ((M.1 (c + 12) (x1).toNatClampNeg) &&& x3), .int (0 : Int32), .int (0 : Int32)]) rfl ?_
  refine z_weak [true, false, true, false, true, true, true] (ls' := [.ref c, zU, .int x2, zU, .int ((M.1 (c + 12) (x1).toNatClampNeg) &&& x3), .int (0 : Int32), .int (0 : Int32)]) rfl rfl ?_
  exact h1
theorem t_X3_weighs_16 {E : zEv} {D : Nat} {post : Int32 → zM → Prop} {px : String → zM → Prop} {M : zM} {c : Nat} (hc : zIsC c) {y2 : Int32} {y4 : Int32} {y5 : Int32} {y6 : Int32} (h : (((M.1 c 6) ≤ y6 → post y5 M) ∧ (¬ (M.1 c 6) ≤ y6 → vp_in y6 6 ∧ (((((y4 >>> (y6 &&& 31)) &&& ((M.1 (c + 11) (y6).toNatClampNeg) >>> (y2 &&& 31))) &&& (1 : Int32)) = 0 → w_X3_weighs_57 E D post px c y2 y4 y5 y6 M) ∧ (¬ (((y4 >>> (y6 &&& 31)) &&& ((M.1 (c + 11) (y6).toNatClampNeg) >>> (y2 &&& 31))) &&& (1 : Int32)) = 0 → vp_in y6 6 ∧ w_X3_weighs_57 E D post px c y2 y4 (y5 + (M.1 (c + 10) (y6).toNatClampNeg)) y6 M))))) : w_X3_weighs_16 E D post px c y2 y4 y5 y6 M := by
  show Z E jX3_weighs D 0 (zQi post px) 16 0 [.ref c, zU, .int y2, zU, .int y4, .int y5, .int y6] [] M
  refine z_iload dX3_weighs_16 rfl ?_
  refine z_aload_n dX3_weighs_18 rfl ?_
  refine z_getI dX3_weighs_19 zg_X3_38 (zsC_0 hc) rfl ?_
  refine z_icmp_ge (tgt := 63) dX3_weighs_22 (by decide) (fun g1 => ?_) (fun g1 => ?_)
  · have h2 := h.1 g1
    refine z_iload dX3_weighs_63 rfl ?_
    exact z_iret dX3_weighs_65 rfl rfl (by decide) h2
  · have h3 := h.2 g1
    refine z_iload dX3_weighs_25 rfl ?_
    refine z_iload dX3_weighs_27 rfl ?_
    refine z_ishr dX3_weighs_29 ?_
    refine z_aload_n dX3_weighs_30 rfl ?_
    refine z_getR dX3_weighs_31 zg_X3_29 (zsC_0 hc) rfl ?_
    refine z_iload dX3_weighs_34 rfl ?_
    obtain ⟨g5, h4⟩ := h3
    refine z_iald dX3_weighs_36 (zsC_11 hc) g5 ?_
    refine z_iload_n dX3_weighs_37 rfl ?_
    refine z_ishr dX3_weighs_38 ?_
    refine z_iand dX3_weighs_39 ?_
    refine z_iconst (v := (1 : Int32)) dX3_weighs_40 rfl ?_
    refine z_iand dX3_weighs_41 ?_
    refine z_if_eq (tgt := 57) dX3_weighs_42 (by decide) (fun g6 => ?_) (fun g6 => ?_)
    · have h7 := h4.1 g6
      exact h7
    · have h8 := h4.2 g6
      refine z_iload dX3_weighs_45 rfl ?_
      refine z_aload_n dX3_weighs_47 rfl ?_
      refine z_getR dX3_weighs_48 zg_X3_25 (zsC_0 hc) rfl ?_
      refine z_iload dX3_weighs_51 rfl ?_
      obtain ⟨g10, h9⟩ := h8
      refine z_iald dX3_weighs_53 (zsC_10 hc) g10 ?_
      refine z_iadd dX3_weighs_54 ?_
      refine z_istore dX3_weighs_55 (by decide) (ls' := [.ref c, zU, .int y2, zU, .int y4, .int (y5 + (M.1 (c + 10) (y6).toNatClampNeg)), .int y6]) rfl ?_
      exact h9
theorem t_X3_weighs_57 {E : zEv} {D : Nat} {post : Int32 → zM → Prop} {px : String → zM → Prop} {M : zM} {c : Nat} (hc : zIsC c) {y2 : Int32} {y4 : Int32} {y5 : Int32} {y6 : Int32} (h : w_X3_weighs_16 E D post px c y2 y4 y5 (y6 + (1 : Int32)) M) : w_X3_weighs_57 E D post px c y2 y4 y5 y6 M := by
  show Z E jX3_weighs D 0 (zQi post px) 57 0 [.ref c, zU, .int y2, zU, .int y4, .int y5, .int y6] [] M
  refine z_iinc dX3_weighs_57 rfl (by decide) (ls' := [.ref c, zU, .int y2, zU, .int y4, .int y5, .int (y6 + (1 : Int32))]) rfl ?_
  refine z_goto (tgt := 16) dX3_weighs_60 (by decide) ?_
  exact h
