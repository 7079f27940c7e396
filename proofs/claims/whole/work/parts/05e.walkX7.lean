theorem e_X7_copy {E : zEv} {D : Nat} {post : zM → Prop} {px : String → zM → Prop} {M : zM} {c : Nat} {c2 : Nat} (hc : zIsC c) (hc2 : zIsC c2) (h : ∀ M1 : zM, M1 = zrowL M (c + 9) (va_cpy (M.2 (c2 + 9)) (M.2 (c + 9)) ((0 : Int32)).toNatClampNeg ((0 : Int32)).toNatClampNeg ((60 : Int32)).toNatClampNeg) → ∀ M3 : zM, M3 = zup M1 (c + 8) 1 (M1.1 (c2 + 8) 1) → ∀ M5 : zM, M5 = zup M3 (c + 8) 2 (M3.1 (c2 + 8) 2) → post M5) : zCv E jX7_copy D 0 [.ref (c + 8), .ref (c2 + 8)] M post px := by
  refine z_meth (by decide) (Nat.le_of_ble_eq_true rfl) ?_
  show Z E jX7_copy D 0 (zQv post px) 0 0 [.ref (c + 8), .ref (c2 + 8)] [] M
  refine z_aload_n dX7_copy_0 rfl ?_
  refine z_getR dX7_copy_1 zg_X7_9 (zsC_8 hc2) rfl ?_
  refine z_iconst (v := (0 : Int32)) dX7_copy_4 rfl ?_
  refine z_aload_n dX7_copy_5 rfl ?_
  refine z_getR dX7_copy_6 zg_X7_9 (zsC_8 hc) rfl ?_
  refine z_iconst (v := (0 : Int32)) dX7_copy_9 rfl ?_
  refine z_bipush (v := (60 : Int32)) dX7_copy_10 rfl ?_
  refine z_copyL dX7_copy_12 zc_X7_22 (zsC_9 hc2) (zsC_9 hc) (by decide) (by decide) (by decide) (by decide) (by decide) (Nat.le_of_ble_eq_true rfl) ?_
  generalize hhM1 : zrowL M (c + 9) (va_cpy (M.2 (c2 + 9)) (M.2 (c + 9)) ((0 : Int32)).toNatClampNeg ((0 : Int32)).toNatClampNeg ((60 : Int32)).toNatClampNeg) = M1
  have h2 := h M1 hhM1.symm
  refine z_aload_n dX7_copy_15 rfl ?_
  refine z_aload_n dX7_copy_16 rfl ?_
  refine z_getI dX7_copy_17 zg_X7_15 (zsC_8 hc2) rfl ?_
  refine z_putI dX7_copy_20 zp_X7_15 (zsC_8 hc) rfl rfl rfl ?_
  generalize hhM3 : zup M1 (c + 8) 1 (M1.1 (c2 + 8) 1) = M3
  have h4 := h2 M3 hhM3.symm
  refine z_aload_n dX7_copy_23 rfl ?_
  refine z_aload_n dX7_copy_24 rfl ?_
  refine z_getI dX7_copy_25 zg_X7_19 (zsC_8 hc2) rfl ?_
  refine z_putI dX7_copy_28 zp_X7_19 (zsC_8 hc) rfl rfl rfl ?_
  generalize hhM5 : zup M3 (c + 8) 2 (M3.1 (c2 + 8) 2) = M5
  have h6 := h4 M5 hhM5.symm
  exact z_vret dX7_copy_31 rfl (by decide) h6
theorem e_X7_add {E : zEv} {D : Nat} {post : zM → Prop} {px : String → zM → Prop} {M : zM} {c : Nat} {x1 : Int32} {x2 : Int32} {x3 : Int32} {x4 : Int32} {x5 : Int32} (hc : zIsC c) (h : vp_in (M.1 (c + 8) 2) 60 ∧ ∀ M3 : zM, M3 = zupL M (c + 9) ((M.1 (c + 8) 2)).toNatClampNeg ((zlshl ((zlshl ((zlshl ((zlshl ((x1).toInt64) (4 : Int32)) ||| ((x2).toInt64)) (4 : Int32)) ||| ((x3).toInt64)) (4 : Int32)) ||| (((x4 + (1 : Int32))).toInt64)) (16 : Int32)) ||| ((x5).toInt64)) → ∀ M5 : zM, M5 = zup M3 (c + 8) 2 (zrem ((M3.1 (c + 8) 2) + (1 : Int32)) (60 : Int32)) → ∀ M7 : zM, M7 = zup M5 (c + 8) 1 (zmin (60 : Int32) ((M5.1 (c + 8) 1) + (1 : Int32))) → post M7) : zCv E jX7_add D 0 [.ref (c + 8), .int x1, .int x2, .int x3, .int x4, .int x5] M post px := by
  refine z_meth (by decide) (Nat.le_of_ble_eq_true rfl) ?_
  show Z E jX7_add D 0 (zQv post px) 0 0 [.ref (c + 8), .int x1, .int x2, .int x3, .int x4, .int x5, zU, zU] [] M
  refine z_iload_n dX7_add_0 rfl ?_
  refine z_i2l (v := ((x1).toInt64)) dX7_add_1 rfl ?_
  refine z_lstore dX7_add_2 (by decide) (ls' := [.ref (c + 8), .int x1, .int x2, .int x3, .int x4, .int x5, .long ((x1).toInt64), zU]) rfl ?_
  refine z_lload dX7_add_4 rfl ?_
  refine z_iconst (v := (4 : Int32)) dX7_add_6 rfl ?_
  refine z_lshl (v := (zlshl ((x1).toInt64) (4 : Int32))) dX7_add_7 rfl ?_
  refine z_iload_n dX7_add_8 rfl ?_
  refine z_i2l (v := ((x2).toInt64)) dX7_add_9 rfl ?_
  refine z_lor dX7_add_10 ?_
  refine z_lstore dX7_add_11 (by decide) (ls' := [.ref (c + 8), .int x1, .int x2, .int x3, .int x4, .int x5, .long ((zlshl ((x1).toInt64) (4 : Int32)) ||| ((x2).toInt64)), zU]) rfl ?_
  refine z_lload dX7_add_13 rfl ?_
  refine z_iconst (v := (4 : Int32)) dX7_add_15 rfl ?_
  refine z_lshl (v := (zlshl ((zlshl ((x1).toInt64) (4 : Int32)) ||| ((x2).toInt64)) (4 : Int32))) dX7_add_16 rfl ?_
  refine z_iload_n dX7_add_17 rfl ?_
  refine z_i2l (v := ((x3).toInt64)) dX7_add_18 rfl ?_
  refine z_lor dX7_add_19 ?_
  refine z_lstore dX7_add_20 (by decide) (ls' := [.ref (c + 8), .int x1, .int x2, .int x3, .int x4, .int x5, .long ((zlshl ((zlshl ((x1).toInt64) (4 : Int32)) ||| ((x2).toInt64)) (4 : Int32)) ||| ((x3).toInt64)), zU]) rfl ?_
  refine z_lload dX7_add_22 rfl ?_
  refine z_iconst (v := (4 : Int32)) dX7_add_24 rfl ?_
  refine z_lshl (v := (zlshl ((zlshl ((zlshl ((x1).toInt64) (4 : Int32)) ||| ((x2).toInt64)) (4 : Int32)) ||| ((x3).toInt64)) (4 : Int32))) dX7_add_25 rfl ?_
  refine z_iload dX7_add_26 rfl ?_
  refine z_iconst (v := (1 : Int32)) dX7_add_28 rfl ?_
  refine z_iadd dX7_add_29 ?_
  refine z_i2l (v := (((x4 + (1 : Int32))).toInt64)) dX7_add_30 rfl ?_
  refine z_lor dX7_add_31 ?_
  refine z_lstore dX7_add_32 (by decide) (ls' := [.ref (c + 8), .int x1, .int x2, .int x3, .int x4, .int x5, .long ((zlshl ((zlshl ((zlshl ((x1).toInt64) (4 : Int32)) ||| ((x2).toInt64)) (4 : Int32)) ||| ((x3).toInt64)) (4 : Int32)) ||| (((x4 + (1 : Int32))).toInt64)), zU]) rfl ?_
  refine z_aload_n dX7_add_34 rfl ?_
  refine z_getR dX7_add_35 zg_X7_9 (zsC_8 hc) rfl ?_
  refine z_aload_n dX7_add_38 rfl ?_
  refine z_getI dX7_add_39 zg_X7_19 (zsC_8 hc) rfl ?_
  refine z_lload dX7_add_42 rfl ?_
  refine z_bipush (v := (16 : Int32)) dX7_add_44 rfl ?_
  refine z_lshl (v := (zlshl ((zlshl ((zlshl ((zlshl ((x1).toInt64) (4 : Int32)) ||| ((x2).toInt64)) (4 : Int32)) ||| ((x3).toInt64)) (4 : Int32)) ||| (((x4 + (1 : Int32))).toInt64)) (16 : Int32))) dX7_add_46 rfl ?_
  refine z_iload dX7_add_47 rfl ?_
  refine z_i2l (v := ((x5).toInt64)) dX7_add_49 rfl ?_
  refine z_lor dX7_add_50 ?_
  obtain ⟨g2, h1⟩ := h
  refine z_last dX7_add_51 (zsC_9 hc) g2 ?_
  generalize hhM3 : zupL M (c + 9) ((M.1 (c + 8) 2)).toNatClampNeg ((zlshl ((zlshl ((zlshl ((zlshl ((x1).toInt64) (4 : Int32)) ||| ((x2).toInt64)) (4 : Int32)) ||| ((x3).toInt64)) (4 : Int32)) ||| (((x4 + (1 : Int32))).toInt64)) (16 : Int32)) ||| ((x5).toInt64)) = M3
  have h4 := h1 M3 hhM3.symm
  refine z_aload_n dX7_add_52 rfl ?_
  refine z_aload_n dX7_add_53 rfl ?_
  refine z_getI dX7_add_54 zg_X7_19 (zsC_8 hc) rfl ?_
  refine z_iconst (v := (1 : Int32)) dX7_add_57 rfl ?_
  refine z_iadd dX7_add_58 ?_
  refine z_bipush (v := (60 : Int32)) dX7_add_59 rfl ?_
  refine z_irem dX7_add_61 (by decide) ?_
  refine z_putI dX7_add_62 zp_X7_19 (zsC_8 hc) rfl rfl rfl ?_
  generalize hhM5 : zup M3 (c + 8) 2 (zrem ((M3.1 (c + 8) 2) + (1 : Int32)) (60 : Int32)) = M5
  have h6 := h4 M5 hhM5.symm
  refine z_aload_n dX7_add_65 rfl ?_
  refine z_bipush (v := (60 : Int32)) dX7_add_66 rfl ?_
  refine z_aload_n dX7_add_68 rfl ?_
  refine z_getI dX7_add_69 zg_X7_15 (zsC_8 hc) rfl ?_
  refine z_iconst (v := (1 : Int32)) dX7_add_72 rfl ?_
  refine z_iadd dX7_add_73 ?_
  refine z_min dX7_add_74 zm_X7_28 (Nat.le_of_ble_eq_true rfl) (by decide) ?_
  refine z_putI dX7_add_77 zp_X7_15 (zsC_8 hc) rfl rfl rfl ?_
  generalize hhM7 : zup M5 (c + 8) 1 (zmin (60 : Int32) ((M5.1 (c + 8) 1) + (1 : Int32))) = M7
  have h8 := h6 M7 hhM7.symm
  exact z_vret dX7_add_80 rfl (by decide) h8
def w_X7_read_10 (E : zEv) (D : Nat) (post : Int32 → zM → Prop) (px : String → zM → Prop) (c : Nat)  (M : zM) : Prop := Z E jX7_read D 0 (zQi post px) 10 0 [zU, zU, zU, zU, zU] [] M
theorem e_X7_read {E : zEv} {D : Nat} {post : Int32 → zM → Prop} {px : String → zM → Prop} {M : zM} {c : Nat} {x1 : Int32} {x2 : Int32} (hc : zIsC c) (h : ((x1 < 0 → w_X7_read_10 E D post px c M) ∧ (¬ x1 < 0 → ((x1 < (60 : Int32) → vp_in (zrem ((((M.1 (c + 8) 2) + (60 : Int32)) - (1 : Int32)) - x1) (60 : Int32)) 60 ∧ ((x2 = (0 : Int32) → post (((zlshr (M.2 (c + 9) ((zrem ((((M.1 (c + 8) 2) + (60 : Int32)) - (1 : Int32)) - x1) (60 : Int32))).toNatClampNeg) (28 : Int32))).toInt32) M) ∧ (¬ x2 = (0 : Int32) → ((x2 = (1 : Int32) → post ((((zlshr (M.2 (c + 9) ((zrem ((((M.1 (c + 8) 2) + (60 : Int32)) - (1 : Int32)) - x1) (60 : Int32))).toNatClampNeg) (24 : Int32)) &&& (15 : Int64))).toInt32) M) ∧ (¬ x2 = (1 : Int32) → ((x2 = (2 : Int32) → post ((((zlshr (M.2 (c + 9) ((zrem ((((M.1 (c + 8) 2) + (60 : Int32)) - (1 : Int32)) - x1) (60 : Int32))).toNatClampNeg) (20 : Int32)) &&& (15 : Int64))).toInt32) M) ∧ (¬ x2 = (2 : Int32) → ((x2 = (3 : Int32) → post (((((zlshr (M.2 (c + 9) ((zrem ((((M.1 (c + 8) 2) + (60 : Int32)) - (1 : Int32)) - x1) (60 : Int32))).toNatClampNeg) (16 : Int32)) &&& (15 : Int64))).toInt32) - (1 : Int32)) M) ∧ (¬ x2 = (3 : Int32) → post ((((M.2 (c + 9) ((zrem ((((M.1 (c + 8) 2) + (60 : Int32)) - (1 : Int32)) - x1) (60 : Int32))).toNatClampNeg) &&& (65535 : Int64))).toInt32) M))))))))) ∧ (¬ x1 < (60 : Int32) → w_X7_read_10 E D post px c M))))) : zCi E jX7_read D 0 [.ref (c + 8), .int x1, .int x2] M post px := by
  refine z_meth (by decide) (Nat.le_of_ble_eq_true rfl) ?_
  show Z E jX7_read D 0 (zQi post px) 0 0 [.ref (c + 8), .int x1, .int x2, zU, zU] [] M
  refine z_iload_n dX7_read_0 rfl ?_
  refine z_if_lt (tgt := 10) dX7_read_1 (by decide) (fun g1 => ?_) (fun g1 => ?_)
  · have h2 := h.1 g1
    refine z_weak [false, false, false, false, false] (ls' := [zU, zU, zU, zU, zU]) rfl rfl ?_
    exact h2
  · have h3 := h.2 g1
    refine z_iload_n dX7_read_4 rfl ?_
    refine z_bipush (v := (60 : Int32)) dX7_read_5 rfl ?_
    refine z_icmp_lt (tgt := 12) dX7_read_7 (by decide) (fun g4 => ?_) (fun g4 => ?_)
    · have h5 := h3.1 g4
      refine z_aload_n dX7_read_12 rfl ?_
      refine z_getR dX7_read_13 zg_X7_9 (zsC_8 hc) rfl ?_
      refine z_aload_n dX7_read_16 rfl ?_
      refine z_getI dX7_read_17 zg_X7_19 (zsC_8 hc) rfl ?_
      refine z_bipush (v := (60 : Int32)) dX7_read_20 rfl ?_
      refine z_iadd dX7_read_22 ?_
      refine z_iconst (v := (1 : Int32)) dX7_read_23 rfl ?_
      refine z_isub dX7_read_24 ?_
      refine z_iload_n dX7_read_25 rfl ?_
      refine z_isub dX7_read_26 ?_
      refine z_bipush (v := (60 : Int32)) dX7_read_27 rfl ?_
      refine z_irem dX7_read_29 (by decide) ?_
      obtain ⟨g8, h7⟩ := h5
      refine z_lald dX7_read_30 (zsC_9 hc) g8 ?_
      refine z_lstore_n dX7_read_31 (by decide) (ls' := [.ref (c + 8), .int x1, .int x2, .long (M.2 (c + 9) ((zrem ((((M.1 (c + 8) 2) + (60 : Int32)) - (1 : Int32)) - x1) (60 : Int32))).toNatClampNeg), zU]) rfl ?_
      refine z_iload_n dX7_read_32 rfl ?_
      by_cases g9 : x2 = (0 : Int32)
      · have h10 := h7.1 g9
        refine z_tableIn (tgt := 64) dX7_read_33 (by rw [g9]; decide) (by rw [g9]; decide) (by rw [g9]; rfl) (by decide) ?_
        refine z_lload_n dX7_read_64 rfl ?_
        refine z_bipush (v := (28 : Int32)) dX7_read_65 rfl ?_
        refine z_lshr (v := (zlshr (M.2 (c + 9) ((zrem ((((M.1 (c + 8) 2) + (60 : Int32)) - (1 : Int32)) - x1) (60 : Int32))).toNatClampNeg) (28 : Int32))) dX7_read_67 rfl ?_
        refine z_l2i (v := (((zlshr (M.2 (c + 9) ((zrem ((((M.1 (c + 8) 2) + (60 : Int32)) - (1 : Int32)) - x1) (60 : Int32))).toNatClampNeg) (28 : Int32))).toInt32)) dX7_read_68 rfl ?_
        exact z_iret dX7_read_69 rfl rfl (by decide) h10
      have h11 := h7.2 g9
      by_cases g12 : x2 = (1 : Int32)
      · have h13 := h11.1 g12
        refine z_tableIn (tgt := 70) dX7_read_33 (by rw [g12]; decide) (by rw [g12]; decide) (by rw [g12]; rfl) (by decide) ?_
        refine z_lload_n dX7_read_70 rfl ?_
        refine z_bipush (v := (24 : Int32)) dX7_read_71 rfl ?_
        refine z_lshr (v := (zlshr (M.2 (c + 9) ((zrem ((((M.1 (c + 8) 2) + (60 : Int32)) - (1 : Int32)) - x1) (60 : Int32))).toNatClampNeg) (24 : Int32))) dX7_read_73 rfl ?_
        refine z_ldc2 (v := (15 : Int64)) dX7_read_74 zw_1445 ?_
        refine z_land dX7_read_77 ?_
        refine z_l2i (v := ((((zlshr (M.2 (c + 9) ((zrem ((((M.1 (c + 8) 2) + (60 : Int32)) - (1 : Int32)) - x1) (60 : Int32))).toNatClampNeg) (24 : Int32)) &&& (15 : Int64))).toInt32)) dX7_read_78 rfl ?_
        exact z_iret dX7_read_79 rfl rfl (by decide) h13
      have h14 := h11.2 g12
      by_cases g15 : x2 = (2 : Int32)
      · have h16 := h14.1 g15
        refine z_tableIn (tgt := 80) dX7_read_33 (by rw [g15]; decide) (by rw [g15]; decide) (by rw [g15]; rfl) (by decide) ?_
        refine z_lload_n dX7_read_80 rfl ?_
        refine z_bipush (v := (20 : Int32)) dX7_read_81 rfl ?_
        refine z_lshr (v := (zlshr (M.2 (c + 9) ((zrem ((((M.1 (c + 8) 2) + (60 : Int32)) - (1 : Int32)) - x1) (60 : Int32))).toNatClampNeg) (20 : Int32))) dX7_read_83 rfl ?_
        refine z_ldc2 (v := (15 : Int64)) dX7_read_84 zw_1445 ?_
        refine z_land dX7_read_87 ?_
        refine z_l2i (v := ((((zlshr (M.2 (c + 9) ((zrem ((((M.1 (c + 8) 2) + (60 : Int32)) - (1 : Int32)) - x1) (60 : Int32))).toNatClampNeg) (20 : Int32)) &&& (15 : Int64))).toInt32)) dX7_read_88 rfl ?_
        exact z_iret dX7_read_89 rfl rfl (by decide) h16
      have h17 := h14.2 g15
      by_cases g18 : x2 = (3 : Int32)
      · have h19 := h17.1 g18
        refine z_tableIn (tgt := 90) dX7_read_33 (by rw [g18]; decide) (by rw [g18]; decide) (by rw [g18]; rfl) (by decide) ?_
        refine z_lload_n dX7_read_90 rfl ?_
        refine z_bipush (v := (16 : Int32)) dX7_read_91 rfl ?_
        refine z_lshr (v := (zlshr (M.2 (c + 9) ((zrem ((((M.1 (c + 8) 2) + (60 : Int32)) - (1 : Int32)) - x1) (60 : Int32))).toNatClampNeg) (16 : Int32))) dX7_read_93 rfl ?_
        refine z_ldc2 (v := (15 : Int64)) dX7_read_94 zw_1445 ?_
        refine z_land dX7_read_97 ?_
        refine z_l2i (v := ((((zlshr (M.2 (c + 9) ((zrem ((((M.1 (c + 8) 2) + (60 : Int32)) - (1 : Int32)) - x1) (60 : Int32))).toNatClampNeg) (16 : Int32)) &&& (15 : Int64))).toInt32)) dX7_read_98 rfl ?_
        refine z_iconst (v := (1 : Int32)) dX7_read_99 rfl ?_
        refine z_isub dX7_read_100 ?_
        exact z_iret dX7_read_101 rfl rfl (by decide) h19
      have h20 := h17.2 g18
      refine z_tableOut (tgt := 102) dX7_read_33 (by have := zne_toInt g9 (by decide : ((0 : Int32)).toInt = 0); have := zne_toInt g12 (by decide : ((1 : Int32)).toInt = 1); have := zne_toInt g15 (by decide : ((2 : Int32)).toInt = 2); have := zne_toInt g18 (by decide : ((3 : Int32)).toInt = 3); omega) (by decide) ?_
      refine z_lload_n dX7_read_102 rfl ?_
      refine z_ldc2 (v := (65535 : Int64)) dX7_read_103 zw_1446 ?_
      refine z_land dX7_read_106 ?_
      refine z_l2i (v := ((((M.2 (c + 9) ((zrem ((((M.1 (c + 8) 2) + (60 : Int32)) - (1 : Int32)) - x1) (60 : Int32))).toNatClampNeg) &&& (65535 : Int64))).toInt32)) dX7_read_107 rfl ?_
      exact z_iret dX7_read_108 rfl rfl (by decide) h20
    · have h6 := h3.2 g4
      refine z_weak [false, false, false, false, false] (ls' := [zU, zU, zU, zU, zU]) rfl rfl ?_
      exact h6
theorem t_X7_read_10 {E : zEv} {D : Nat} {post : Int32 → zM → Prop} {px : String → zM → Prop} {M : zM} {c : Nat} (hc : zIsC c)  (h : post (-1 : Int32) M) : w_X7_read_10 E D post px c M := by
  show Z E jX7_read D 0 (zQi post px) 10 0 [zU, zU, zU, zU, zU] [] M
  refine z_iconst (v := (-1 : Int32)) dX7_read_10 rfl ?_
  exact z_iret dX7_read_11 rfl rfl (by decide) h
