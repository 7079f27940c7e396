theorem e_X6_copy {E : zEv} {D : Nat} {post : zM → Prop} {px : String → zM → Prop} {M : zM} {b : Nat} {b2 : Nat} (hb : zIsL b) (hb2 : zIsL b2) (h : ∀ M1 : zM, M1 = zrow M (b + 1) (va_cpy (M.1 (b2 + 1)) (M.1 (b + 1)) ((0 : Int32)).toNatClampNeg ((0 : Int32)).toNatClampNeg ((12 : Int32)).toNatClampNeg) → ∀ M3 : zM, M3 = zrow M1 (b + 2) (va_cpy (M1.1 (b2 + 2)) (M1.1 (b + 2)) ((0 : Int32)).toNatClampNeg ((0 : Int32)).toNatClampNeg ((12 : Int32)).toNatClampNeg) → ∀ M5 : zM, M5 = zrow M3 (b + 3) (va_cpy (M3.1 (b2 + 3)) (M3.1 (b + 3)) ((0 : Int32)).toNatClampNeg ((0 : Int32)).toNatClampNeg ((12 : Int32)).toNatClampNeg) → ∀ M7 : zM, M7 = zrow M5 (b + 4) (va_cpy (M5.1 (b2 + 4)) (M5.1 (b + 4)) ((0 : Int32)).toNatClampNeg ((0 : Int32)).toNatClampNeg ((400 : Int32)).toNatClampNeg) → ∀ M9 : zM, M9 = zup M7 b 6 (M7.1 b2 6) → ∀ M11 : zM, M11 = zup M9 b 7 (M9.1 b2 7) → post M11) : zCv E jX6_copy D 0 [.ref b, .ref b2] M post px := by
  refine z_meth (by decide) (Nat.le_of_ble_eq_true rfl) ?_
  show Z E jX6_copy D 0 (zQv post px) 0 0 [.ref b, .ref b2] [] M
  refine z_aload_n dX6_copy_0 rfl ?_
  refine z_getR dX6_copy_1 zg_X6_9 (zsL_0 hb2) rfl ?_
  refine z_iconst (v := (0 : Int32)) dX6_copy_4 rfl ?_
  refine z_aload_n dX6_copy_5 rfl ?_
  refine z_getR dX6_copy_6 zg_X6_9 (zsL_0 hb) rfl ?_
  refine z_iconst (v := (0 : Int32)) dX6_copy_9 rfl ?_
  refine z_bipush (v := (12 : Int32)) dX6_copy_10 rfl ?_
  refine z_copy dX6_copy_12 zc_X6_37 (zsL_1 hb2) (zsL_1 hb) (by decide) (by decide) (by decide) (by decide) (by decide) (Nat.le_of_ble_eq_true rfl) ?_
  generalize hhM1 : zrow M (b + 1) (va_cpy (M.1 (b2 + 1)) (M.1 (b + 1)) ((0 : Int32)).toNatClampNeg ((0 : Int32)).toNatClampNeg ((12 : Int32)).toNatClampNeg) = M1
  have h2 := h M1 hhM1.symm
  refine z_aload_n dX6_copy_15 rfl ?_
  refine z_getR dX6_copy_16 zg_X6_15 (zsL_0 hb2) rfl ?_
  refine z_iconst (v := (0 : Int32)) dX6_copy_19 rfl ?_
  refine z_aload_n dX6_copy_20 rfl ?_
  refine z_getR dX6_copy_21 zg_X6_15 (zsL_0 hb) rfl ?_
  refine z_iconst (v := (0 : Int32)) dX6_copy_24 rfl ?_
  refine z_bipush (v := (12 : Int32)) dX6_copy_25 rfl ?_
  refine z_copy dX6_copy_27 zc_X6_37 (zsL_2 hb2) (zsL_2 hb) (by decide) (by decide) (by decide) (by decide) (by decide) (Nat.le_of_ble_eq_true rfl) ?_
  generalize hhM3 : zrow M1 (b + 2) (va_cpy (M1.1 (b2 + 2)) (M1.1 (b + 2)) ((0 : Int32)).toNatClampNeg ((0 : Int32)).toNatClampNeg ((12 : Int32)).toNatClampNeg) = M3
  have h4 := h2 M3 hhM3.symm
  refine z_aload_n dX6_copy_30 rfl ?_
  refine z_getR dX6_copy_31 zg_X6_18 (zsL_0 hb2) rfl ?_
  refine z_iconst (v := (0 : Int32)) dX6_copy_34 rfl ?_
  refine z_aload_n dX6_copy_35 rfl ?_
  refine z_getR dX6_copy_36 zg_X6_18 (zsL_0 hb) rfl ?_
  refine z_iconst (v := (0 : Int32)) dX6_copy_39 rfl ?_
  refine z_bipush (v := (12 : Int32)) dX6_copy_40 rfl ?_
  refine z_copy dX6_copy_42 zc_X6_37 (zsL_3 hb2) (zsL_3 hb) (by decide) (by decide) (by decide) (by decide) (by decide) (Nat.le_of_ble_eq_true rfl) ?_
  generalize hhM5 : zrow M3 (b + 3) (va_cpy (M3.1 (b2 + 3)) (M3.1 (b + 3)) ((0 : Int32)).toNatClampNeg ((0 : Int32)).toNatClampNeg ((12 : Int32)).toNatClampNeg) = M5
  have h6 := h4 M5 hhM5.symm
  refine z_aload_n dX6_copy_45 rfl ?_
  refine z_getR dX6_copy_46 zg_X6_21 (zsL_0 hb2) rfl ?_
  refine z_iconst (v := (0 : Int32)) dX6_copy_49 rfl ?_
  refine z_aload_n dX6_copy_50 rfl ?_
  refine z_getR dX6_copy_51 zg_X6_21 (zsL_0 hb) rfl ?_
  refine z_iconst (v := (0 : Int32)) dX6_copy_54 rfl ?_
  refine z_sipush (v := (400 : Int32)) dX6_copy_55 rfl ?_
  refine z_copy dX6_copy_58 zc_X6_37 (zsL_4 hb2) (zsL_4 hb) (by decide) (by decide) (by decide) (by decide) (by decide) (Nat.le_of_ble_eq_true rfl) ?_
  generalize hhM7 : zrow M5 (b + 4) (va_cpy (M5.1 (b2 + 4)) (M5.1 (b + 4)) ((0 : Int32)).toNatClampNeg ((0 : Int32)).toNatClampNeg ((400 : Int32)).toNatClampNeg) = M7
  have h8 := h6 M7 hhM7.symm
  refine z_aload_n dX6_copy_61 rfl ?_
  refine z_aload_n dX6_copy_62 rfl ?_
  refine z_getI dX6_copy_63 zg_X6_30 (zsL_0 hb2) rfl ?_
  refine z_putI dX6_copy_66 zp_X6_30 (zsL_0 hb) rfl rfl rfl ?_
  generalize hhM9 : zup M7 b 6 (M7.1 b2 6) = M9
  have h10 := h8 M9 hhM9.symm
  refine z_aload_n dX6_copy_69 rfl ?_
  refine z_aload_n dX6_copy_70 rfl ?_
  refine z_getI dX6_copy_71 zg_X6_34 (zsL_0 hb2) rfl ?_
  refine z_putI dX6_copy_74 zp_X6_34 (zsL_0 hb) rfl rfl rfl ?_
  generalize hhM11 : zup M9 b 7 (M9.1 b2 7) = M11
  have h12 := h10 M11 hhM11.symm
  exact z_vret dX6_copy_77 rfl (by decide) h12
def w_X6_read_25 (E : zEv) (D : Nat) (post : Int32 → zM → Prop) (px : String → zM → Prop)  (y2 : Int32) (M : zM) : Prop := Z E jX6_read (D + 1) 0 (zQi post px) 25 0 [.ref 22, .ref 20, .int y2] [] M
theorem e_X6_read {E : zEv} {D : Nat} {post : Int32 → zM → Prop} {px : String → zM → Prop} {M : zM}   (h : ∀ M1 : zM, M1 = zup M 22 6 (0 : Int32) → ∀ M3 : zM, M3 = zup M1 22 7 (0 : Int32) → zCv E jX9_open D 0 [.ref 20] M3 (fun M5 => zCi E jX9_isEnd D 0 [.ref 20] M5 (fun r9 M7 => ((r9 = 0 → w_X6_read_25 E D post px (0 : Int32) M7) ∧ (¬ r9 = 0 → post (1 : Int32) M7))) px) px) : zCi E jX6_read (D + 1) 0 [.ref 22, .ref 20] M post px := by
  refine z_meth (by decide) (Nat.le_of_ble_eq_true rfl) ?_
  show Z E jX6_read (D + 1) 0 (zQi post px) 0 0 [.ref 22, .ref 20, zU] [] M
  refine z_aload_n dX6_read_0 rfl ?_
  refine z_iconst (v := (0 : Int32)) dX6_read_1 rfl ?_
  refine z_putI dX6_read_2 zp_X6_30 zs_22 rfl rfl rfl ?_
  generalize hhM1 : zup M 22 6 (0 : Int32) = M1
  have h2 := h M1 hhM1.symm
  refine z_aload_n dX6_read_5 rfl ?_
  refine z_iconst (v := (0 : Int32)) dX6_read_6 rfl ?_
  refine z_putI dX6_read_7 zp_X6_34 zs_22 rfl rfl rfl ?_
  generalize hhM3 : zup M1 22 7 (0 : Int32) = M3
  have h4 := h2 M3 hhM3.symm
  refine z_aload_n dX6_read_10 rfl ?_
  refine z_callVv (As := []) (st := []) dX6_read_11 zi_X6_43 rfl rfl zs_20 rfl rfl (Nat.le_of_ble_eq_true rfl) (by decide) (fun _ _ hx => hx) h4 ?_
  intro M5 h6
  refine z_aload_n dX6_read_14 rfl ?_
  refine z_callVi (As := []) (st := []) dX6_read_15 zi_X6_48 rfl rfl zs_20 rfl rfl (Nat.le_of_ble_eq_true rfl) (by decide) (fun _ _ hx => hx) h6 ?_
  intro r9 M7 h8
  refine z_if_eq (tgt := 23) dX6_read_18 (by decide) (fun g10 => ?_) (fun g10 => ?_)
  · have h11 := h8.1 g10
    refine z_iconst (v := (0 : Int32)) dX6_read_23 rfl ?_
    refine z_istore_n dX6_read_24 (by decide) (ls' := [.ref 22, .ref 20, .int (0 : Int32)]) rfl ?_
    exact h11
  · have h12 := h8.2 g10
    refine z_iconst (v := (1 : Int32)) dX6_read_21 rfl ?_
    exact z_iret dX6_read_22 rfl (by decide) (by decide) h12
theorem t_X6_read_25 {E : zEv} {D : Nat} {post : Int32 → zM → Prop} {px : String → zM → Prop} {M : zM}   {y2 : Int32} (h : (((12 : Int32) ≤ y2 → post (0 : Int32) M) ∧ (¬ (12 : Int32) ≤ y2 → zCi E jX6_readLine D 0 [.ref 22, .ref 20] M (fun r6 M4 => ((¬ r6 = 0 → zCi E jX9_isEnd D 0 [.ref 20] M4 (fun r12 M10 => ((r12 = 0 → zCi E jX9_takeSign D 0 [.ref 20, .int (59 : Int32)] M10 (fun r18 M16 => ((¬ r18 = 0 → w_X6_read_25 E D post px (y2 + (1 : Int32)) M16) ∧ (r18 = 0 → post (0 : Int32) M16))) px) ∧ (¬ r12 = 0 → post (1 : Int32) M10))) px) ∧ (r6 = 0 → post (0 : Int32) M4))) px))) : w_X6_read_25 E D post px y2 M := by
  show Z E jX6_read (D + 1) 0 (zQi post px) 25 0 [.ref 22, .ref 20, .int y2] [] M
  refine z_iload_n dX6_read_25 rfl ?_
  refine z_bipush (v := (12 : Int32)) dX6_read_26 rfl ?_
  refine z_icmp_ge (tgt := 67) dX6_read_28 (by decide) (fun g1 => ?_) (fun g1 => ?_)
  · have h2 := h.1 g1
    refine z_iconst (v := (0 : Int32)) dX6_read_67 rfl ?_
    exact z_iret dX6_read_68 rfl (by decide) (by decide) h2
  · have h3 := h.2 g1
    refine z_aload_n dX6_read_31 rfl ?_
    refine z_aload_n dX6_read_32 rfl ?_
    refine z_callVi (As := [.ref 20]) (st := []) dX6_read_33 zi_X6_52 rfl rfl zs_22 rfl rfl (Nat.le_of_ble_eq_true rfl) (by decide) (fun _ _ hx => hx) h3 ?_
    intro r6 M4 h5
    refine z_if_ne (tgt := 41) dX6_read_36 (by decide) (fun g7 => ?_) (fun g7 => ?_)
    · have h8 := h5.1 g7
      refine z_aload_n dX6_read_41 rfl ?_
      refine z_callVi (As := []) (st := []) dX6_read_42 zi_X6_48 rfl rfl zs_20 rfl rfl (Nat.le_of_ble_eq_true rfl) (by decide) (fun _ _ hx => hx) h8 ?_
      intro r12 M10 h11
      refine z_if_eq (tgt := 50) dX6_read_45 (by decide) (fun g13 => ?_) (fun g13 => ?_)
      · have h14 := h11.1 g13
        refine z_aload_n dX6_read_50 rfl ?_
        refine z_bipush (v := (59 : Int32)) dX6_read_51 rfl ?_
        refine z_callVi (As := [.int (59 : Int32)]) (st := []) dX6_read_53 zi_X6_56 rfl rfl zs_20 rfl rfl (Nat.le_of_ble_eq_true rfl) (by decide) (fun _ _ hx => hx) h14 ?_
        intro r18 M16 h17
        refine z_if_ne (tgt := 61) dX6_read_56 (by decide) (fun g19 => ?_) (fun g19 => ?_)
        · have h20 := h17.1 g19
          refine z_iinc dX6_read_61 rfl (by decide) (ls' := [.ref 22, .ref 20, .int (y2 + (1 : Int32))]) rfl ?_
          refine z_goto (tgt := 25) dX6_read_64 (by decide) ?_
          exact h20
        · have h21 := h17.2 g19
          refine z_iconst (v := (0 : Int32)) dX6_read_59 rfl ?_
          exact z_iret dX6_read_60 rfl (by decide) (by decide) h21
      · have h15 := h11.2 g13
        refine z_iconst (v := (1 : Int32)) dX6_read_48 rfl ?_
        exact z_iret dX6_read_49 rfl (by decide) (by decide) h15
    · have h9 := h5.2 g7
      refine z_iconst (v := (0 : Int32)) dX6_read_39 rfl ?_
      exact z_iret dX6_read_40 rfl (by decide) (by decide) h9
def w_X6_readLine_55 (E : zEv) (D : Nat) (post : Int32 → zM → Prop) (px : String → zM → Prop)   (M : zM) : Prop := Z E jX6_readLine (D + 1) 0 (zQi post px) 55 0 [zU, zU, zU, zU] [] M
def w_X6_readLine_60 (E : zEv) (D : Nat) (post : Int32 → zM → Prop) (px : String → zM → Prop)  (s0 : Int32) (M : zM) : Prop := Z E jX6_readLine (D + 1) 0 (zQi post px) 60 0 [zU, zU, zU, zU] [.int s0] M
theorem e_X6_readLine {E : zEv} {D : Nat} {post : Int32 → zM → Prop} {px : String → zM → Prop} {M : zM}   (h : zCi E jX6_kindHere D 0 [.ref 20] M (fun r3 M1 => ((¬ r3 = (-1 : Int32) → zCv E jX9_advance D 0 [.ref 20] M1 (fun M7 => zCi E jX9_takeNumber D 0 [.ref 20, .int (0 : Int32), .int (99 : Int32)] M7 (fun r11 M9 => ((¬ r11 = (-1 : Int32) → zCv E jX6_begin D 0 [.ref 22, .int r3, .int r11] M9 (fun M15 => zCi E jX9_takeWord D 0 [.ref 20, .ref (271 + 21)] M15 (fun r19 M17 => ((r19 = 0 → w_X6_readLine_55 E D post px  M17) ∧ (¬ r19 = 0 → zCi E jX6_readAny D 0 [.ref 22, .ref 20, .int (0 : Int32)] M17 (fun r25 M23 => ((r25 = 0 → w_X6_readLine_60 E D post px (0 : Int32) M23) ∧ (¬ r25 = 0 → w_X6_readLine_55 E D post px  M23))) px))) px) px) ∧ (r11 = (-1 : Int32) → post (0 : Int32) M9))) px) px) ∧ (r3 = (-1 : Int32) → post (0 : Int32) M1))) px) : zCi E jX6_readLine (D + 1) 0 [.ref 22, .ref 20] M post px := by
  refine z_meth (by decide) (Nat.le_of_ble_eq_true rfl) ?_
  show Z E jX6_readLine (D + 1) 0 (zQi post px) 0 0 [.ref 22, .ref 20, zU, zU] [] M
  refine z_aload_n dX6_readLine_0 rfl ?_
  refine z_callSi (As := [.ref 20]) (st := []) dX6_readLine_1 zi_X6_60 rfl rfl (Nat.le_of_ble_eq_true rfl) (by decide) (fun _ _ hx => hx) h ?_
  intro r3 M1 h2
  refine z_istore_n dX6_readLine_4 (by decide) (ls' := [.ref 22, .ref 20, .int r3, zU]) rfl ?_
  refine z_iload_n dX6_readLine_5 rfl ?_
  refine z_iconst (v := (-1 : Int32)) dX6_readLine_6 rfl ?_
  refine z_icmp_ne (tgt := 12) dX6_readLine_7 (by decide) (fun g4 => ?_) (fun g4 => ?_)
  · have h5 := h2.1 g4
    refine z_aload_n dX6_readLine_12 rfl ?_
    refine z_callVv (As := []) (st := []) dX6_readLine_13 zi_X6_64 rfl rfl zs_20 rfl rfl (Nat.le_of_ble_eq_true rfl) (by decide) (fun _ _ hx => hx) h5 ?_
    intro M7 h8
    refine z_aload_n dX6_readLine_16 rfl ?_
    refine z_iconst (v := (0 : Int32)) dX6_readLine_17 rfl ?_
    refine z_bipush (v := (99 : Int32)) dX6_readLine_18 rfl ?_
    refine z_callVi (As := [.int (0 : Int32), .int (99 : Int32)]) (st := []) dX6_readLine_20 zi_X6_67 rfl rfl zs_20 rfl rfl (Nat.le_of_ble_eq_true rfl) (by decide) (fun _ _ hx => hx) h8 ?_
    intro r11 M9 h10
    refine z_istore_n dX6_readLine_23 (by decide) (ls' := [.ref 22, .ref 20, .int r3, .int r11]) rfl ?_
    refine z_iload_n dX6_readLine_24 rfl ?_
    refine z_iconst (v := (-1 : Int32)) dX6_readLine_25 rfl ?_
    refine z_icmp_ne (tgt := 31) dX6_readLine_26 (by decide) (fun g12 => ?_) (fun g12 => ?_)
    · have h13 := h10.1 g12
      refine z_aload_n dX6_readLine_31 rfl ?_
      refine z_iload_n dX6_readLine_32 rfl ?_
      refine z_iload_n dX6_readLine_33 rfl ?_
      refine z_callVv (As := [.int r3, .int r11]) (st := []) dX6_readLine_34 zi_X6_71 rfl rfl zs_22 rfl rfl (Nat.le_of_ble_eq_true rfl) (by decide) (fun _ _ hx => hx) h13 ?_
      intro M15 h16
      refine z_aload_n dX6_readLine_37 rfl ?_
      refine z_ldcS (i := 21) dX6_readLine_38 rfl ?_
      refine z_callVi (As := [.ref (271 + 21)]) (st := []) dX6_readLine_40 zi_X6_77 rfl rfl zs_20 rfl rfl (Nat.le_of_ble_eq_true rfl) (by decide) (fun _ _ hx => hx) h16 ?_
      intro r19 M17 h18
      refine z_if_eq (tgt := 55) dX6_readLine_43 (by decide) (fun g20 => ?_) (fun g20 => ?_)
      · have h21 := h18.1 g20
        refine z_weak [false, false, false, false] (ls' := [zU, zU, zU, zU]) rfl rfl ?_
        exact h21
      · have h22 := h18.2 g20
        refine z_aload_n dX6_readLine_46 rfl ?_
        refine z_aload_n dX6_readLine_47 rfl ?_
        refine z_iconst (v := (0 : Int32)) dX6_readLine_48 rfl ?_
        refine z_callVi (As := [.ref 20, .int (0 : Int32)]) (st := []) dX6_readLine_49 zi_X6_81 rfl rfl zs_22 rfl rfl (Nat.le_of_ble_eq_true rfl) (by decide) (fun _ _ hx => hx) h22 ?_
        intro r25 M23 h24
        refine z_if_eq (tgt := 59) dX6_readLine_52 (by decide) (fun g26 => ?_) (fun g26 => ?_)
        · have h27 := h24.1 g26
          refine z_iconst (v := (0 : Int32)) dX6_readLine_59 rfl ?_
          refine z_weak [false, false, false, false] (ls' := [zU, zU, zU, zU]) rfl rfl ?_
          exact h27
        · have h28 := h24.2 g26
          refine z_weak [false, false, false, false] (ls' := [zU, zU, zU, zU]) rfl rfl ?_
          exact h28
    · have h14 := h10.2 g12
      refine z_iconst (v := (0 : Int32)) dX6_readLine_29 rfl ?_
      exact z_iret dX6_readLine_30 rfl (by decide) (by decide) h14
  · have h6 := h2.2 g4
    refine z_iconst (v := (0 : Int32)) dX6_readLine_10 rfl ?_
    exact z_iret dX6_readLine_11 rfl (by decide) (by decide) h6
theorem t_X6_readLine_55 {E : zEv} {D : Nat} {post : Int32 → zM → Prop} {px : String → zM → Prop} {M : zM}    (h : w_X6_readLine_60 E D post px (1 : Int32) M) : w_X6_readLine_55 E D post px  M := by
  show Z E jX6_readLine (D + 1) 0 (zQi post px) 55 0 [zU, zU, zU, zU] [] M
  refine z_iconst (v := (1 : Int32)) dX6_readLine_55 rfl ?_
  refine z_goto (tgt := 60) dX6_readLine_56 (by decide) ?_
  exact h
theorem t_X6_readLine_60 {E : zEv} {D : Nat} {post : Int32 → zM → Prop} {px : String → zM → Prop} {M : zM}   {s0 : Int32} (h : (s0 = 0 ∨ s0 = 1) ∧ post s0 M) : w_X6_readLine_60 E D post px s0 M := by
  show Z E jX6_readLine (D + 1) 0 (zQi post px) 60 0 [zU, zU, zU, zU] [.int s0] M
  obtain ⟨g2, h1⟩ := h
  exact z_iret dX6_readLine_60 rfl (zbool g2) (by decide) h1
def w_X6_kindHere_36 (E : zEv) (D : Nat) (post : Int32 → zM → Prop) (px : String → zM → Prop)  (s0 : Int32) (M : zM) : Prop := Z E jX6_kindHere (D + 1) 0 (zQi post px) 36 0 [zU] [.int s0] M
theorem e_X6_kindHere {E : zEv} {D : Nat} {post : Int32 → zM → Prop} {px : String → zM → Prop} {M : zM}   (h : zCi E jX9_isWord D 0 [.ref 20, .ref (271 + 18)] M (fun r3 M1 => ((r3 = 0 → zCi E jX9_isWord D 0 [.ref 20, .ref (271 + 19)] M1 (fun r9 M7 => ((r9 = 0 → zCi E jX9_isWord D 0 [.ref 20, .ref (271 + 20)] M7 (fun r15 M13 => ((r15 = 0 → w_X6_kindHere_36 E D post px (-1 : Int32) M13) ∧ (¬ r15 = 0 → w_X6_kindHere_36 E D post px (2 : Int32) M13))) px) ∧ (¬ r9 = 0 → post (1 : Int32) M7))) px) ∧ (¬ r3 = 0 → post (0 : Int32) M1))) px) : zCi E jX6_kindHere (D + 1) 0 [.ref 20] M post px := by
  refine z_meth (by decide) (Nat.le_of_ble_eq_true rfl) ?_
  show Z E jX6_kindHere (D + 1) 0 (zQi post px) 0 0 [.ref 20] [] M
  refine z_aload_n dX6_kindHere_0 rfl ?_
  refine z_ldcS (i := 18) dX6_kindHere_1 rfl ?_
  refine z_callVi (As := [.ref (271 + 18)]) (st := []) dX6_kindHere_3 zi_X6_87 rfl rfl zs_20 rfl rfl (Nat.le_of_ble_eq_true rfl) (by decide) (fun _ _ hx => hx) h ?_
  intro r3 M1 h2
  refine z_if_eq (tgt := 11) dX6_kindHere_6 (by decide) (fun g4 => ?_) (fun g4 => ?_)
  · have h5 := h2.1 g4
    refine z_aload_n dX6_kindHere_11 rfl ?_
    refine z_ldcS (i := 19) dX6_kindHere_12 rfl ?_
    refine z_callVi (As := [.ref (271 + 19)]) (st := []) dX6_kindHere_14 zi_X6_87 rfl rfl zs_20 rfl rfl (Nat.le_of_ble_eq_true rfl) (by decide) (fun _ _ hx => hx) h5 ?_
    intro r9 M7 h8
    refine z_if_eq (tgt := 22) dX6_kindHere_17 (by decide) (fun g10 => ?_) (fun g10 => ?_)
    · have h11 := h8.1 g10
      refine z_aload_n dX6_kindHere_22 rfl ?_
      refine z_ldcS (i := 20) dX6_kindHere_23 rfl ?_
      refine z_callVi (As := [.ref (271 + 20)]) (st := []) dX6_kindHere_25 zi_X6_87 rfl rfl zs_20 rfl rfl (Nat.le_of_ble_eq_true rfl) (by decide) (fun _ _ hx => hx) h11 ?_
      intro r15 M13 h14
      refine z_if_eq (tgt := 35) dX6_kindHere_28 (by decide) (fun g16 => ?_) (fun g16 => ?_)
      · have h17 := h14.1 g16
        refine z_iconst (v := (-1 : Int32)) dX6_kindHere_35 rfl ?_
        refine z_weak [false] (ls' := [zU]) rfl rfl ?_
        exact h17
      · have h18 := h14.2 g16
        refine z_iconst (v := (2 : Int32)) dX6_kindHere_31 rfl ?_
        refine z_goto (tgt := 36) dX6_kindHere_32 (by decide) ?_
        refine z_weak [false] (ls' := [zU]) rfl rfl ?_
        exact h18
    · have h12 := h8.2 g10
      refine z_iconst (v := (1 : Int32)) dX6_kindHere_20 rfl ?_
      exact z_iret dX6_kindHere_21 rfl rfl (by decide) h12
  · have h6 := h2.2 g4
    refine z_iconst (v := (0 : Int32)) dX6_kindHere_9 rfl ?_
    exact z_iret dX6_kindHere_10 rfl rfl (by decide) h6
theorem t_X6_kindHere_36 {E : zEv} {D : Nat} {post : Int32 → zM → Prop} {px : String → zM → Prop} {M : zM}   {s0 : Int32} (h : post s0 M) : w_X6_kindHere_36 E D post px s0 M := by
  show Z E jX6_kindHere (D + 1) 0 (zQi post px) 36 0 [zU] [.int s0] M
  exact z_iret dX6_kindHere_36 rfl rfl (by decide) h
def w_X6_readAny_13 (E : zEv) (D : Nat) (post : Int32 → zM → Prop) (px : String → zM → Prop)  (y2 : Int32) (y3 : Int32) (M : zM) : Prop := Z E jX6_readAny (D + 1) 0 (zQi post px) 13 0 [.ref 22, .ref 20, .int y2, .int y3] [] M
def w_X6_readAny_52 (E : zEv) (D : Nat) (post : Int32 → zM → Prop) (px : String → zM → Prop)   (M : zM) : Prop := Z E jX6_readAny (D + 1) 0 (zQi post px) 52 0 [zU, zU, zU, zU] [] M
theorem e_X6_readAny {E : zEv} {D : Nat} {post : Int32 → zM → Prop} {px : String → zM → Prop} {M : zM} {x2 : Int32}  (h : zCi E jX6_readAll D 0 [.ref 22, .ref 20, .int x2] M (fun r3 M1 => ((¬ r3 = 0 → w_X6_readAny_13 E D post px x2 (0 : Int32) M1) ∧ (r3 = 0 → post (0 : Int32) M1))) px) : zCi E jX6_readAny (D + 1) 0 [.ref 22, .ref 20, .int x2] M post px := by
  refine z_meth (by decide) (Nat.le_of_ble_eq_true rfl) ?_
  show Z E jX6_readAny (D + 1) 0 (zQi post px) 0 0 [.ref 22, .ref 20, .int x2, zU] [] M
  refine z_aload_n dX6_readAny_0 rfl ?_
  refine z_aload_n dX6_readAny_1 rfl ?_
  refine z_iload_n dX6_readAny_2 rfl ?_
  refine z_callVi (As := [.ref 20, .int x2]) (st := []) dX6_readAny_3 zi_X6_94 rfl rfl zs_22 rfl rfl (Nat.le_of_ble_eq_true rfl) (by decide) (fun _ _ hx => hx) h ?_
  intro r3 M1 h2
  refine z_if_ne (tgt := 11) dX6_readAny_6 (by decide) (fun g4 => ?_) (fun g4 => ?_)
  · have h5 := h2.1 g4
    refine z_iconst (v := (0 : Int32)) dX6_readAny_11 rfl ?_
    refine z_istore_n dX6_readAny_12 (by decide) (ls' := [.ref 22, .ref 20, .int x2, .int (0 : Int32)]) rfl ?_
    exact h5
  · have h6 := h2.2 g4
    refine z_iconst (v := (0 : Int32)) dX6_readAny_9 rfl ?_
    exact z_iret dX6_readAny_10 rfl (by decide) (by decide) h6
theorem t_X6_readAny_13 {E : zEv} {D : Nat} {post : Int32 → zM → Prop} {px : String → zM → Prop} {M : zM}   {y2 : Int32} {y3 : Int32} (h : (((400 : Int32) ≤ y3 → w_X6_readAny_52 E D post px  M) ∧ (¬ (400 : Int32) ≤ y3 → zCi E jX9_takeWord D 0 [.ref 20, .ref (271 + 28)] M (fun r6 M4 => ((r6 = 0 → w_X6_readAny_52 E D post px  M4) ∧ (¬ r6 = 0 → zCi E jX6_readAll D 0 [.ref 22, .ref 20, .int y2] M4 (fun r12 M10 => ((¬ r12 = 0 → zCv E jX6_addStep D 0 [.ref 22, .int (-25 : Int32)] M10 (fun M16 => w_X6_readAny_13 E D post px y2 (y3 + (1 : Int32)) M16) px) ∧ (r12 = 0 → post (0 : Int32) M10))) px))) px))) : w_X6_readAny_13 E D post px y2 y3 M := by
  show Z E jX6_readAny (D + 1) 0 (zQi post px) 13 0 [.ref 22, .ref 20, .int y2, .int y3] [] M
  refine z_iload_n dX6_readAny_13 rfl ?_
  refine z_sipush (v := (400 : Int32)) dX6_readAny_14 rfl ?_
  refine z_icmp_ge (tgt := 52) dX6_readAny_17 (by decide) (fun g1 => ?_) (fun g1 => ?_)
  · have h2 := h.1 g1
    refine z_weak [false, false, false, false] (ls' := [zU, zU, zU, zU]) rfl rfl ?_
    exact h2
  · have h3 := h.2 g1
    refine z_aload_n dX6_readAny_20 rfl ?_
    refine z_ldcS (i := 35) dX6_readAny_21 rfl ?_
    refine z_callVi (As := [.ref (271 + 28)]) (st := []) dX6_readAny_23 zi_X6_77 rfl rfl zs_20 rfl rfl (Nat.le_of_ble_eq_true rfl) (by decide) (fun _ _ hx => hx) h3 ?_
    intro r6 M4 h5
    refine z_if_eq (tgt := 52) dX6_readAny_26 (by decide) (fun g7 => ?_) (fun g7 => ?_)
    · have h8 := h5.1 g7
      refine z_weak [false, false, false, false] (ls' := [zU, zU, zU, zU]) rfl rfl ?_
      exact h8
    · have h9 := h5.2 g7
      refine z_aload_n dX6_readAny_29 rfl ?_
      refine z_aload_n dX6_readAny_30 rfl ?_
      refine z_iload_n dX6_readAny_31 rfl ?_
      refine z_callVi (As := [.ref 20, .int y2]) (st := []) dX6_readAny_32 zi_X6_94 rfl rfl zs_22 rfl rfl (Nat.le_of_ble_eq_true rfl) (by decide) (fun _ _ hx => hx) h9 ?_
      intro r12 M10 h11
      refine z_if_ne (tgt := 40) dX6_readAny_35 (by decide) (fun g13 => ?_) (fun g13 => ?_)
      · have h14 := h11.1 g13
        refine z_aload_n dX6_readAny_40 rfl ?_
        refine z_bipush (v := (-25 : Int32)) dX6_readAny_41 rfl ?_
        refine z_callVv (As := [.int (-25 : Int32)]) (st := []) dX6_readAny_43 zi_X6_99 rfl rfl zs_22 rfl rfl (Nat.le_of_ble_eq_true rfl) (by decide) (fun _ _ hx => hx) h14 ?_
        intro M16 h17
        refine z_iinc dX6_readAny_46 rfl (by decide) (ls' := [.ref 22, .ref 20, .int y2, .int (y3 + (1 : Int32))]) rfl ?_
        refine z_goto (tgt := 13) dX6_readAny_49 (by decide) ?_
        exact h17
      · have h15 := h11.2 g13
        refine z_iconst (v := (0 : Int32)) dX6_readAny_38 rfl ?_
        exact z_iret dX6_readAny_39 rfl (by decide) (by decide) h15
theorem t_X6_readAny_52 {E : zEv} {D : Nat} {post : Int32 → zM → Prop} {px : String → zM → Prop} {M : zM}    (h : post (1 : Int32) M) : w_X6_readAny_52 E D post px  M := by
  show Z E jX6_readAny (D + 1) 0 (zQi post px) 52 0 [zU, zU, zU, zU] [] M
  refine z_iconst (v := (1 : Int32)) dX6_readAny_52 rfl ?_
  exact z_iret dX6_readAny_53 rfl (by decide) (by decide) h
def w_X6_readAll_13 (E : zEv) (D : Nat) (post : Int32 → zM → Prop) (px : String → zM → Prop)  (y2 : Int32) (y3 : Int32) (M : zM) : Prop := Z E jX6_readAll (D + 1) 0 (zQi post px) 13 0 [.ref 22, .ref 20, .int y2, .int y3] [] M
def w_X6_readAll_52 (E : zEv) (D : Nat) (post : Int32 → zM → Prop) (px : String → zM → Prop)   (M : zM) : Prop := Z E jX6_readAll (D + 1) 0 (zQi post px) 52 0 [zU, zU, zU, zU] [] M
theorem e_X6_readAll {E : zEv} {D : Nat} {post : Int32 → zM → Prop} {px : String → zM → Prop} {M : zM} {x2 : Int32}  (h : zCi E jX6_readAtom D 0 [.ref 22, .ref 20, .int x2] M (fun r3 M1 => ((¬ r3 = 0 → w_X6_readAll_13 E D post px x2 (0 : Int32) M1) ∧ (r3 = 0 → post (0 : Int32) M1))) px) : zCi E jX6_readAll (D + 1) 0 [.ref 22, .ref 20, .int x2] M post px := by
  refine z_meth (by decide) (Nat.le_of_ble_eq_true rfl) ?_
  show Z E jX6_readAll (D + 1) 0 (zQi post px) 0 0 [.ref 22, .ref 20, .int x2, zU] [] M
  refine z_aload_n dX6_readAll_0 rfl ?_
  refine z_aload_n dX6_readAll_1 rfl ?_
  refine z_iload_n dX6_readAll_2 rfl ?_
  refine z_callVi (As := [.ref 20, .int x2]) (st := []) dX6_readAll_3 zi_X6_103 rfl rfl zs_22 rfl rfl (Nat.le_of_ble_eq_true rfl) (by decide) (fun _ _ hx => hx) h ?_
  intro r3 M1 h2
  refine z_if_ne (tgt := 11) dX6_readAll_6 (by decide) (fun g4 => ?_) (fun g4 => ?_)
  · have h5 := h2.1 g4
    refine z_iconst (v := (0 : Int32)) dX6_readAll_11 rfl ?_
    refine z_istore_n dX6_readAll_12 (by decide) (ls' := [.ref 22, .ref 20, .int x2, .int (0 : Int32)]) rfl ?_
    exact h5
  · have h6 := h2.2 g4
    refine z_iconst (v := (0 : Int32)) dX6_readAll_9 rfl ?_
    exact z_iret dX6_readAll_10 rfl (by decide) (by decide) h6
theorem t_X6_readAll_13 {E : zEv} {D : Nat} {post : Int32 → zM → Prop} {px : String → zM → Prop} {M : zM}   {y2 : Int32} {y3 : Int32} (h : (((400 : Int32) ≤ y3 → w_X6_readAll_52 E D post px  M) ∧ (¬ (400 : Int32) ≤ y3 → zCi E jX9_takeWord D 0 [.ref 20, .ref (271 + 27)] M (fun r6 M4 => ((r6 = 0 → w_X6_readAll_52 E D post px  M4) ∧ (¬ r6 = 0 → zCi E jX6_readAtom D 0 [.ref 22, .ref 20, .int y2] M4 (fun r12 M10 => ((¬ r12 = 0 → zCv E jX6_addStep D 0 [.ref 22, .int (-24 : Int32)] M10 (fun M16 => w_X6_readAll_13 E D post px y2 (y3 + (1 : Int32)) M16) px) ∧ (r12 = 0 → post (0 : Int32) M10))) px))) px))) : w_X6_readAll_13 E D post px y2 y3 M := by
  show Z E jX6_readAll (D + 1) 0 (zQi post px) 13 0 [.ref 22, .ref 20, .int y2, .int y3] [] M
  refine z_iload_n dX6_readAll_13 rfl ?_
  refine z_sipush (v := (400 : Int32)) dX6_readAll_14 rfl ?_
  refine z_icmp_ge (tgt := 52) dX6_readAll_17 (by decide) (fun g1 => ?_) (fun g1 => ?_)
  · have h2 := h.1 g1
    refine z_weak [false, false, false, false] (ls' := [zU, zU, zU, zU]) rfl rfl ?_
    exact h2
  · have h3 := h.2 g1
    refine z_aload_n dX6_readAll_20 rfl ?_
    refine z_ldcS (i := 34) dX6_readAll_21 rfl ?_
    refine z_callVi (As := [.ref (271 + 27)]) (st := []) dX6_readAll_23 zi_X6_77 rfl rfl zs_20 rfl rfl (Nat.le_of_ble_eq_true rfl) (by decide) (fun _ _ hx => hx) h3 ?_
    intro r6 M4 h5
    refine z_if_eq (tgt := 52) dX6_readAll_26 (by decide) (fun g7 => ?_) (fun g7 => ?_)
    · have h8 := h5.1 g7
      refine z_weak [false, false, false, false] (ls' := [zU, zU, zU, zU]) rfl rfl ?_
      exact h8
    · have h9 := h5.2 g7
      refine z_aload_n dX6_readAll_29 rfl ?_
      refine z_aload_n dX6_readAll_30 rfl ?_
      refine z_iload_n dX6_readAll_31 rfl ?_
      refine z_callVi (As := [.ref 20, .int y2]) (st := []) dX6_readAll_32 zi_X6_103 rfl rfl zs_22 rfl rfl (Nat.le_of_ble_eq_true rfl) (by decide) (fun _ _ hx => hx) h9 ?_
      intro r12 M10 h11
      refine z_if_ne (tgt := 40) dX6_readAll_35 (by decide) (fun g13 => ?_) (fun g13 => ?_)
      · have h14 := h11.1 g13
        refine z_aload_n dX6_readAll_40 rfl ?_
        refine z_bipush (v := (-24 : Int32)) dX6_readAll_41 rfl ?_
        refine z_callVv (As := [.int (-24 : Int32)]) (st := []) dX6_readAll_43 zi_X6_99 rfl rfl zs_22 rfl rfl (Nat.le_of_ble_eq_true rfl) (by decide) (fun _ _ hx => hx) h14 ?_
        intro M16 h17
        refine z_iinc dX6_readAll_46 rfl (by decide) (ls' := [.ref 22, .ref 20, .int y2, .int (y3 + (1 : Int32))]) rfl ?_
        refine z_goto (tgt := 13) dX6_readAll_49 (by decide) ?_
        exact h17
      · have h15 := h11.2 g13
        refine z_iconst (v := (0 : Int32)) dX6_readAll_38 rfl ?_
        exact z_iret dX6_readAll_39 rfl (by decide) (by decide) h15
theorem t_X6_readAll_52 {E : zEv} {D : Nat} {post : Int32 → zM → Prop} {px : String → zM → Prop} {M : zM}    (h : post (1 : Int32) M) : w_X6_readAll_52 E D post px  M := by
  show Z E jX6_readAll (D + 1) 0 (zQi post px) 52 0 [zU, zU, zU, zU] [] M
  refine z_iconst (v := (1 : Int32)) dX6_readAll_52 rfl ?_
  exact z_iret dX6_readAll_53 rfl (by decide) (by decide) h
def w_X6_readAtom_18 (E : zEv) (D : Nat) (post : Int32 → zM → Prop) (px : String → zM → Prop)  (y2 : Int32) (M : zM) : Prop := Z E jX6_readAtom (D + 1) 0 (zQi post px) 18 0 [.ref 22, .ref 20, .int y2, zU, zU] [] M
def w_X6_readAtom_84 (E : zEv) (D : Nat) (post : Int32 → zM → Prop) (px : String → zM → Prop)  (s0 : Int32) (M : zM) : Prop := Z E jX6_readAtom (D + 1) 0 (zQi post px) 84 0 [.ref 22, .ref 20, zU, zU, zU] [.int s0] M
def w_X6_readAtom_39 (E : zEv) (D : Nat) (post : Int32 → zM → Prop) (px : String → zM → Prop)   (M : zM) : Prop := Z E jX6_readAtom (D + 1) 0 (zQi post px) 39 0 [zU, zU, zU, zU, zU] [] M
def w_X6_readAtom_40 (E : zEv) (D : Nat) (post : Int32 → zM → Prop) (px : String → zM → Prop)  (s0 : Int32) (M : zM) : Prop := Z E jX6_readAtom (D + 1) 0 (zQi post px) 40 0 [zU, zU, zU, zU, zU] [.int s0] M
def w_X6_readAtom_129 (E : zEv) (D : Nat) (post : Int32 → zM → Prop) (px : String → zM → Prop)  (s0 : Int32) (M : zM) : Prop := Z E jX6_readAtom (D + 1) 0 (zQi post px) 129 0 [.ref 22, .ref 20, zU, zU, zU] [.int s0] M
def w_X6_readAtom_151 (E : zEv) (D : Nat) (post : Int32 → zM → Prop) (px : String → zM → Prop)  (y4 : Int32) (M : zM) : Prop := Z E jX6_readAtom (D + 1) 0 (zQi post px) 151 0 [.ref 22, .ref 20, zU, zU, .int y4] [] M
theorem e_X6_readAtom {E : zEv} {D : Nat} {post : Int32 → zM → Prop} {px : String → zM → Prop} {M : zM} {x2 : Int32}  (h : zCi E jX9_isWord D 0 [.ref 20, .ref (271 + 22)] M (fun r3 M1 => ((¬ r3 = 0 → w_X6_readAtom_18 E D post px x2 M1) ∧ (r3 = 0 → zCi E jX9_isSign D 0 [.ref 20, .int (40 : Int32)] M1 (fun r9 M7 => ((r9 = 0 → zCi E jX9_isWord D 0 [.ref 20, .ref (271 + 23)] M7 (fun r15 M13 => ((r15 = 0 → zCi E jX9_isWord D 0 [.ref 20, .ref (271 + 24)] M13 (fun r21 M19 => ((r21 = 0 → zCi E jX9_isWord D 0 [.ref 20, .ref (271 + 25)] M19 (fun r27 M25 => ((r27 = 0 → w_X6_readAtom_84 E D post px (-1 : Int32) M25) ∧ (¬ r27 = 0 → w_X6_readAtom_84 E D post px (10 : Int32) M25))) px) ∧ (¬ r21 = 0 → w_X6_readAtom_84 E D post px (9 : Int32) M19))) px) ∧ (¬ r15 = 0 → w_X6_readAtom_84 E D post px (8 : Int32) M13))) px) ∧ (¬ r9 = 0 → w_X6_readAtom_18 E D post px x2 M7))) px))) px) : zCi E jX6_readAtom (D + 1) 0 [.ref 22, .ref 20, .int x2] M post px := by
  refine z_meth (by decide) (Nat.le_of_ble_eq_true rfl) ?_
  show Z E jX6_readAtom (D + 1) 0 (zQi post px) 0 0 [.ref 22, .ref 20, .int x2, zU, zU] [] M
  refine z_aload_n dX6_readAtom_0 rfl ?_
  refine z_ldcS (i := 22) dX6_readAtom_1 rfl ?_
  refine z_callVi (As := [.ref (271 + 22)]) (st := []) dX6_readAtom_3 zi_X6_87 rfl rfl zs_20 rfl rfl (Nat.le_of_ble_eq_true rfl) (by decide) (fun _ _ hx => hx) h ?_
  intro r3 M1 h2
  refine z_if_ne (tgt := 18) dX6_readAtom_6 (by decide) (fun g4 => ?_) (fun g4 => ?_)
  · have h5 := h2.1 g4
    exact h5
  · have h6 := h2.2 g4
    refine z_aload_n dX6_readAtom_9 rfl ?_
    refine z_bipush (v := (40 : Int32)) dX6_readAtom_10 rfl ?_
    refine z_callVi (As := [.int (40 : Int32)]) (st := []) dX6_readAtom_12 zi_X6_110 rfl rfl zs_20 rfl rfl (Nat.le_of_ble_eq_true rfl) (by decide) (fun _ _ hx => hx) h6 ?_
    intro r9 M7 h8
    refine z_if_eq (tgt := 41) dX6_readAtom_15 (by decide) (fun g10 => ?_) (fun g10 => ?_)
    · have h11 := h8.1 g10
      refine z_aload_n dX6_readAtom_41 rfl ?_
      refine z_ldcS (i := 23) dX6_readAtom_42 rfl ?_
      refine z_callVi (As := [.ref (271 + 23)]) (st := []) dX6_readAtom_44 zi_X6_87 rfl rfl zs_20 rfl rfl (Nat.le_of_ble_eq_true rfl) (by decide) (fun _ _ hx => hx) h11 ?_
      intro r15 M13 h14
      refine z_if_eq (tgt := 55) dX6_readAtom_47 (by decide) (fun g16 => ?_) (fun g16 => ?_)
      · have h17 := h14.1 g16
        refine z_aload_n dX6_readAtom_55 rfl ?_
        refine z_ldcS (i := 24) dX6_readAtom_56 rfl ?_
        refine z_callVi (As := [.ref (271 + 24)]) (st := []) dX6_readAtom_58 zi_X6_87 rfl rfl zs_20 rfl rfl (Nat.le_of_ble_eq_true rfl) (by decide) (fun _ _ hx => hx) h17 ?_
        intro r21 M19 h20
        refine z_if_eq (tgt := 69) dX6_readAtom_61 (by decide) (fun g22 => ?_) (fun g22 => ?_)
        · have h23 := h20.1 g22
          refine z_aload_n dX6_readAtom_69 rfl ?_
          refine z_ldcS (i := 25) dX6_readAtom_70 rfl ?_
          refine z_callVi (As := [.ref (271 + 25)]) (st := []) dX6_readAtom_72 zi_X6_87 rfl rfl zs_20 rfl rfl (Nat.le_of_ble_eq_true rfl) (by decide) (fun _ _ hx => hx) h23 ?_
          intro r27 M25 h26
          refine z_if_eq (tgt := 83) dX6_readAtom_75 (by decide) (fun g28 => ?_) (fun g28 => ?_)
          · have h29 := h26.1 g28
            refine z_iconst (v := (-1 : Int32)) dX6_readAtom_83 rfl ?_
            refine z_weak [true, true, false, false, false] (ls' := [.ref 22, .ref 20, zU, zU, zU]) rfl rfl ?_
            exact h29
          · have h30 := h26.2 g28
            refine z_bipush (v := (10 : Int32)) dX6_readAtom_78 rfl ?_
            refine z_goto (tgt := 84) dX6_readAtom_80 (by decide) ?_
            refine z_weak [true, true, false, false, false] (ls' := [.ref 22, .ref 20, zU, zU, zU]) rfl rfl ?_
            exact h30
        · have h24 := h20.2 g22
          refine z_bipush (v := (9 : Int32)) dX6_readAtom_64 rfl ?_
          refine z_goto (tgt := 84) dX6_readAtom_66 (by decide) ?_
          refine z_weak [true, true, false, false, false] (ls' := [.ref 22, .ref 20, zU, zU, zU]) rfl rfl ?_
          exact h24
      · have h18 := h14.2 g16
        refine z_bipush (v := (8 : Int32)) dX6_readAtom_50 rfl ?_
        refine z_goto (tgt := 84) dX6_readAtom_52 (by decide) ?_
        refine z_weak [true, true, false, false, false] (ls' := [.ref 22, .ref 20, zU, zU, zU]) rfl rfl ?_
        exact h18
    · have h12 := h8.2 g10
      exact h12
theorem t_X6_readAtom_18 {E : zEv} {D : Nat} {post : Int32 → zM → Prop} {px : String → zM → Prop} {M : zM}   {y2 : Int32} (h : (((6 : Int32) ≤ y2 → w_X6_readAtom_39 E D post px  M) ∧ (¬ (6 : Int32) ≤ y2 → zCi E jX6_readDeeper D 0 [.ref 22, .ref 20, .int (y2 + (1 : Int32))] M (fun r6 M4 => ((r6 = 0 → w_X6_readAtom_39 E D post px  M4) ∧ (¬ r6 = 0 → w_X6_readAtom_40 E D post px (1 : Int32) M4))) px))) : w_X6_readAtom_18 E D post px y2 M := by
  show Z E jX6_readAtom (D + 1) 0 (zQi post px) 18 0 [.ref 22, .ref 20, .int y2, zU, zU] [] M
  refine z_iload_n dX6_readAtom_18 rfl ?_
  refine z_bipush (v := (6 : Int32)) dX6_readAtom_19 rfl ?_
  refine z_icmp_ge (tgt := 39) dX6_readAtom_21 (by decide) (fun g1 => ?_) (fun g1 => ?_)
  · have h2 := h.1 g1
    refine z_weak [false, false, false, false, false] (ls' := [zU, zU, zU, zU, zU]) rfl rfl ?_
    exact h2
  · have h3 := h.2 g1
    refine z_aload_n dX6_readAtom_24 rfl ?_
    refine z_aload_n dX6_readAtom_25 rfl ?_
    refine z_iload_n dX6_readAtom_26 rfl ?_
    refine z_iconst (v := (1 : Int32)) dX6_readAtom_27 rfl ?_
    refine z_iadd dX6_readAtom_28 ?_
    refine z_callVi (As := [.ref 20, .int (y2 + (1 : Int32))]) (st := []) dX6_readAtom_29 zi_X6_113 rfl rfl zs_22 rfl rfl (Nat.le_of_ble_eq_true rfl) (by decide) (fun _ _ hx => hx) h3 ?_
    intro r6 M4 h5
    refine z_if_eq (tgt := 39) dX6_readAtom_32 (by decide) (fun g7 => ?_) (fun g7 => ?_)
    · have h8 := h5.1 g7
      refine z_weak [false, false, false, false, false] (ls' := [zU, zU, zU, zU, zU]) rfl rfl ?_
      exact h8
    · have h9 := h5.2 g7
      refine z_iconst (v := (1 : Int32)) dX6_readAtom_35 rfl ?_
      refine z_goto (tgt := 40) dX6_readAtom_36 (by decide) ?_
      refine z_weak [false, false, false, false, false] (ls' := [zU, zU, zU, zU, zU]) rfl rfl ?_
      exact h9
theorem t_X6_readAtom_84 {E : zEv} {D : Nat} {post : Int32 → zM → Prop} {px : String → zM → Prop} {M : zM}   {s0 : Int32} (h : ((s0 = (-1 : Int32) → zCi E jX6_readSum D 0 [.ref 22, .ref 20] M (fun r6 M4 => ((¬ r6 = 0 → zCi E jX9_isSign D 0 [.ref 20, .int (60 : Int32)] M4 (fun r12 M10 => ((r12 = 0 → w_X6_readAtom_129 E D post px (-23 : Int32) M10) ∧ (¬ r12 = 0 → w_X6_readAtom_129 E D post px (-22 : Int32) M10))) px) ∧ (r6 = 0 → post (0 : Int32) M4))) px) ∧ (¬ s0 = (-1 : Int32) → zCv E jX6_addStep D 0 [.ref 22, .int ((-1 : Int32) - s0)] M (fun M16 => zCv E jX9_advance D 0 [.ref 20] M16 (fun M18 => post (1 : Int32) M18) px) px))) : w_X6_readAtom_84 E D post px s0 M := by
  show Z E jX6_readAtom (D + 1) 0 (zQi post px) 84 0 [.ref 22, .ref 20, zU, zU, zU] [.int s0] M
  refine z_istore_n dX6_readAtom_84 (by decide) (ls' := [.ref 22, .ref 20, zU, .int s0, zU]) rfl ?_
  refine z_iload_n dX6_readAtom_85 rfl ?_
  refine z_iconst (v := (-1 : Int32)) dX6_readAtom_86 rfl ?_
  refine z_icmp_eq (tgt := 103) dX6_readAtom_87 (by decide) (fun g1 => ?_) (fun g1 => ?_)
  · have h2 := h.1 g1
    refine z_aload_n dX6_readAtom_103 rfl ?_
    refine z_aload_n dX6_readAtom_104 rfl ?_
    refine z_callVi (As := [.ref 20]) (st := []) dX6_readAtom_105 zi_X6_122 rfl rfl zs_22 rfl rfl (Nat.le_of_ble_eq_true rfl) (by decide) (fun _ _ hx => hx) h2 ?_
    intro r6 M4 h5
    refine z_if_ne (tgt := 113) dX6_readAtom_108 (by decide) (fun g7 => ?_) (fun g7 => ?_)
    · have h8 := h5.1 g7
      refine z_aload_n dX6_readAtom_113 rfl ?_
      refine z_bipush (v := (60 : Int32)) dX6_readAtom_114 rfl ?_
      refine z_callVi (As := [.int (60 : Int32)]) (st := []) dX6_readAtom_116 zi_X6_110 rfl rfl zs_20 rfl rfl (Nat.le_of_ble_eq_true rfl) (by decide) (fun _ _ hx => hx) h8 ?_
      intro r12 M10 h11
      refine z_if_eq (tgt := 127) dX6_readAtom_119 (by decide) (fun g13 => ?_) (fun g13 => ?_)
      · have h14 := h11.1 g13
        refine z_bipush (v := (-23 : Int32)) dX6_readAtom_127 rfl ?_
        refine z_weak [true, true, false, false, false] (ls' := [.ref 22, .ref 20, zU, zU, zU]) rfl rfl ?_
        exact h14
      · have h15 := h11.2 g13
        refine z_bipush (v := (-22 : Int32)) dX6_readAtom_122 rfl ?_
        refine z_goto (tgt := 129) dX6_readAtom_124 (by decide) ?_
        refine z_weak [true, true, false, false, false] (ls' := [.ref 22, .ref 20, zU, zU, zU]) rfl rfl ?_
        exact h15
    · have h9 := h5.2 g7
      refine z_iconst (v := (0 : Int32)) dX6_readAtom_111 rfl ?_
      exact z_iret dX6_readAtom_112 rfl (by decide) (by decide) h9
  · have h3 := h.2 g1
    refine z_aload_n dX6_readAtom_90 rfl ?_
    refine z_iconst (v := (-1 : Int32)) dX6_readAtom_91 rfl ?_
    refine z_iload_n dX6_readAtom_92 rfl ?_
    refine z_isub dX6_readAtom_93 ?_
    refine z_callVv (As := [.int ((-1 : Int32) - s0)]) (st := []) dX6_readAtom_94 zi_X6_99 rfl rfl zs_22 rfl rfl (Nat.le_of_ble_eq_true rfl) (by decide) (fun _ _ hx => hx) h3 ?_
    intro M16 h17
    refine z_aload_n dX6_readAtom_97 rfl ?_
    refine z_callVv (As := []) (st := []) dX6_readAtom_98 zi_X6_64 rfl rfl zs_20 rfl rfl (Nat.le_of_ble_eq_true rfl) (by decide) (fun _ _ hx => hx) h17 ?_
    intro M18 h19
    refine z_iconst (v := (1 : Int32)) dX6_readAtom_101 rfl ?_
    exact z_iret dX6_readAtom_102 rfl (by decide) (by decide) h19
theorem t_X6_readAtom_39 {E : zEv} {D : Nat} {post : Int32 → zM → Prop} {px : String → zM → Prop} {M : zM}    (h : w_X6_readAtom_40 E D post px (0 : Int32) M) : w_X6_readAtom_39 E D post px  M := by
  show Z E jX6_readAtom (D + 1) 0 (zQi post px) 39 0 [zU, zU, zU, zU, zU] [] M
  refine z_iconst (v := (0 : Int32)) dX6_readAtom_39 rfl ?_
  exact h
theorem t_X6_readAtom_40 {E : zEv} {D : Nat} {post : Int32 → zM → Prop} {px : String → zM → Prop} {M : zM}   {s0 : Int32} (h : (s0 = 0 ∨ s0 = 1) ∧ post s0 M) : w_X6_readAtom_40 E D post px s0 M := by
  show Z E jX6_readAtom (D + 1) 0 (zQi post px) 40 0 [zU, zU, zU, zU, zU] [.int s0] M
  obtain ⟨g2, h1⟩ := h
  exact z_iret dX6_readAtom_40 rfl (zbool g2) (by decide) h1
theorem t_X6_readAtom_129 {E : zEv} {D : Nat} {post : Int32 → zM → Prop} {px : String → zM → Prop} {M : zM}   {s0 : Int32} (h : zCi E jX9_takeSign D 0 [.ref 20, .int (60 : Int32)] M (fun r3 M1 => ((¬ r3 = 0 → w_X6_readAtom_151 E D post px s0 M1) ∧ (r3 = 0 → zCi E jX9_takeSign D 0 [.ref 20, .int (62 : Int32)] M1 (fun r9 M7 => ((¬ r9 = 0 → w_X6_readAtom_151 E D post px s0 M7) ∧ (r9 = 0 → post (0 : Int32) M7))) px))) px) : w_X6_readAtom_129 E D post px s0 M := by
  show Z E jX6_readAtom (D + 1) 0 (zQi post px) 129 0 [.ref 22, .ref 20, zU, zU, zU] [.int s0] M
  refine z_istore dX6_readAtom_129 (by decide) (ls' := [.ref 22, .ref 20, zU, zU, .int s0]) rfl ?_
  refine z_aload_n dX6_readAtom_131 rfl ?_
  refine z_bipush (v := (60 : Int32)) dX6_readAtom_132 rfl ?_
  refine z_callVi (As := [.int (60 : Int32)]) (st := []) dX6_readAtom_134 zi_X6_56 rfl rfl zs_20 rfl rfl (Nat.le_of_ble_eq_true rfl) (by decide) (fun _ _ hx => hx) h ?_
  intro r3 M1 h2
  refine z_if_ne (tgt := 151) dX6_readAtom_137 (by decide) (fun g4 => ?_) (fun g4 => ?_)
  · have h5 := h2.1 g4
    exact h5
  · have h6 := h2.2 g4
    refine z_aload_n dX6_readAtom_140 rfl ?_
    refine z_bipush (v := (62 : Int32)) dX6_readAtom_141 rfl ?_
    refine z_callVi (As := [.int (62 : Int32)]) (st := []) dX6_readAtom_143 zi_X6_56 rfl rfl zs_20 rfl rfl (Nat.le_of_ble_eq_true rfl) (by decide) (fun _ _ hx => hx) h6 ?_
    intro r9 M7 h8
    refine z_if_ne (tgt := 151) dX6_readAtom_146 (by decide) (fun g10 => ?_) (fun g10 => ?_)
    · have h11 := h8.1 g10
      exact h11
    · have h12 := h8.2 g10
      refine z_iconst (v := (0 : Int32)) dX6_readAtom_149 rfl ?_
      exact z_iret dX6_readAtom_150 rfl (by decide) (by decide) h12
theorem t_X6_readAtom_151 {E : zEv} {D : Nat} {post : Int32 → zM → Prop} {px : String → zM → Prop} {M : zM}   {y4 : Int32} (h : zCi E jX6_readSum D 0 [.ref 22, .ref 20] M (fun r3 M1 => ((¬ r3 = 0 → zCv E jX6_addStep D 0 [.ref 22, .int y4] M1 (fun M7 => post (1 : Int32) M7) px) ∧ (r3 = 0 → post (0 : Int32) M1))) px) : w_X6_readAtom_151 E D post px y4 M := by
  show Z E jX6_readAtom (D + 1) 0 (zQi post px) 151 0 [.ref 22, .ref 20, zU, zU, .int y4] [] M
  refine z_aload_n dX6_readAtom_151 rfl ?_
  refine z_aload_n dX6_readAtom_152 rfl ?_
  refine z_callVi (As := [.ref 20]) (st := []) dX6_readAtom_153 zi_X6_122 rfl rfl zs_22 rfl rfl (Nat.le_of_ble_eq_true rfl) (by decide) (fun _ _ hx => hx) h ?_
  intro r3 M1 h2
  refine z_if_ne (tgt := 161) dX6_readAtom_156 (by decide) (fun g4 => ?_) (fun g4 => ?_)
  · have h5 := h2.1 g4
    refine z_aload_n dX6_readAtom_161 rfl ?_
    refine z_iload dX6_readAtom_162 rfl ?_
    refine z_callVv (As := [.int y4]) (st := []) dX6_readAtom_164 zi_X6_99 rfl rfl zs_22 rfl rfl (Nat.le_of_ble_eq_true rfl) (by decide) (fun _ _ hx => hx) h5 ?_
    intro M7 h8
    refine z_iconst (v := (1 : Int32)) dX6_readAtom_167 rfl ?_
    exact z_iret dX6_readAtom_168 rfl (by decide) (by decide) h8
  · have h6 := h2.2 g4
    refine z_iconst (v := (0 : Int32)) dX6_readAtom_159 rfl ?_
    exact z_iret dX6_readAtom_160 rfl (by decide) (by decide) h6
def w_X6_readDeeper_31 (E : zEv) (D : Nat) (post : Int32 → zM → Prop) (px : String → zM → Prop)   (M : zM) : Prop := Z E jX6_readDeeper (D + 1) 0 (zQi post px) 31 0 [zU, zU, zU] [] M
def w_X6_readDeeper_32 (E : zEv) (D : Nat) (post : Int32 → zM → Prop) (px : String → zM → Prop)  (s0 : Int32) (M : zM) : Prop := Z E jX6_readDeeper (D + 1) 0 (zQi post px) 32 0 [zU, zU, zU] [.int s0] M
theorem e_X6_readDeeper {E : zEv} {D : Nat} {post : Int32 → zM → Prop} {px : String → zM → Prop} {M : zM} {x2 : Int32}  (h : zCi E jX9_takeSign D 0 [.ref 20, .int (40 : Int32)] M (fun r3 M1 => ((r3 = 0 → zCv E jX9_advance D 0 [.ref 20] M1 (fun M7 => zCi E jX6_readAtom D 0 [.ref 22, .ref 20, .int x2] M7 (fun r11 M9 => ((¬ r11 = 0 → zCv E jX6_addStep D 0 [.ref 22, .int (-20 : Int32)] M9 (fun M15 => post (1 : Int32) M15) px) ∧ (r11 = 0 → post (0 : Int32) M9))) px) px) ∧ (¬ r3 = 0 → zCi E jX6_readAny D 0 [.ref 22, .ref 20, .int x2] M1 (fun r19 M17 => ((r19 = 0 → w_X6_readDeeper_31 E D post px  M17) ∧ (¬ r19 = 0 → zCi E jX9_takeSign D 0 [.ref 20, .int (41 : Int32)] M17 (fun r25 M23 => ((r25 = 0 → w_X6_readDeeper_31 E D post px  M23) ∧ (¬ r25 = 0 → w_X6_readDeeper_32 E D post px (1 : Int32) M23))) px))) px))) px) : zCi E jX6_readDeeper (D + 1) 0 [.ref 22, .ref 20, .int x2] M post px := by
  refine z_meth (by decide) (Nat.le_of_ble_eq_true rfl) ?_
  show Z E jX6_readDeeper (D + 1) 0 (zQi post px) 0 0 [.ref 22, .ref 20, .int x2] [] M
  refine z_aload_n dX6_readDeeper_0 rfl ?_
  refine z_bipush (v := (40 : Int32)) dX6_readDeeper_1 rfl ?_
  refine z_callVi (As := [.int (40 : Int32)]) (st := []) dX6_readDeeper_3 zi_X6_56 rfl rfl zs_20 rfl rfl (Nat.le_of_ble_eq_true rfl) (by decide) (fun _ _ hx => hx) h ?_
  intro r3 M1 h2
  refine z_if_eq (tgt := 33) dX6_readDeeper_6 (by decide) (fun g4 => ?_) (fun g4 => ?_)
  · have h5 := h2.1 g4
    refine z_aload_n dX6_readDeeper_33 rfl ?_
    refine z_callVv (As := []) (st := []) dX6_readDeeper_34 zi_X6_64 rfl rfl zs_20 rfl rfl (Nat.le_of_ble_eq_true rfl) (by decide) (fun _ _ hx => hx) h5 ?_
    intro M7 h8
    refine z_aload_n dX6_readDeeper_37 rfl ?_
    refine z_aload_n dX6_readDeeper_38 rfl ?_
    refine z_iload_n dX6_readDeeper_39 rfl ?_
    refine z_callVi (As := [.ref 20, .int x2]) (st := []) dX6_readDeeper_40 zi_X6_103 rfl rfl zs_22 rfl rfl (Nat.le_of_ble_eq_true rfl) (by decide) (fun _ _ hx => hx) h8 ?_
    intro r11 M9 h10
    refine z_if_ne (tgt := 48) dX6_readDeeper_43 (by decide) (fun g12 => ?_) (fun g12 => ?_)
    · have h13 := h10.1 g12
      refine z_aload_n dX6_readDeeper_48 rfl ?_
      refine z_bipush (v := (-20 : Int32)) dX6_readDeeper_49 rfl ?_
      refine z_callVv (As := [.int (-20 : Int32)]) (st := []) dX6_readDeeper_51 zi_X6_99 rfl rfl zs_22 rfl rfl (Nat.le_of_ble_eq_true rfl) (by decide) (fun _ _ hx => hx) h13 ?_
      intro M15 h16
      refine z_iconst (v := (1 : Int32)) dX6_readDeeper_54 rfl ?_
      exact z_iret dX6_readDeeper_55 rfl (by decide) (by decide) h16
    · have h14 := h10.2 g12
      refine z_iconst (v := (0 : Int32)) dX6_readDeeper_46 rfl ?_
      exact z_iret dX6_readDeeper_47 rfl (by decide) (by decide) h14
  · have h6 := h2.2 g4
    refine z_aload_n dX6_readDeeper_9 rfl ?_
    refine z_aload_n dX6_readDeeper_10 rfl ?_
    refine z_iload_n dX6_readDeeper_11 rfl ?_
    refine z_callVi (As := [.ref 20, .int x2]) (st := []) dX6_readDeeper_12 zi_X6_81 rfl rfl zs_22 rfl rfl (Nat.le_of_ble_eq_true rfl) (by decide) (fun _ _ hx => hx) h6 ?_
    intro r19 M17 h18
    refine z_if_eq (tgt := 31) dX6_readDeeper_15 (by decide) (fun g20 => ?_) (fun g20 => ?_)
    · have h21 := h18.1 g20
      refine z_weak [false, false, false] (ls' := [zU, zU, zU]) rfl rfl ?_
      exact h21
    · have h22 := h18.2 g20
      refine z_aload_n dX6_readDeeper_18 rfl ?_
      refine z_bipush (v := (41 : Int32)) dX6_readDeeper_19 rfl ?_
      refine z_callVi (As := [.int (41 : Int32)]) (st := []) dX6_readDeeper_21 zi_X6_56 rfl rfl zs_20 rfl rfl (Nat.le_of_ble_eq_true rfl) (by decide) (fun _ _ hx => hx) h22 ?_
      intro r25 M23 h24
      refine z_if_eq (tgt := 31) dX6_readDeeper_24 (by decide) (fun g26 => ?_) (fun g26 => ?_)
      · have h27 := h24.1 g26
        refine z_weak [false, false, false] (ls' := [zU, zU, zU]) rfl rfl ?_
        exact h27
      · have h28 := h24.2 g26
        refine z_iconst (v := (1 : Int32)) dX6_readDeeper_27 rfl ?_
        refine z_goto (tgt := 32) dX6_readDeeper_28 (by decide) ?_
        refine z_weak [false, false, false] (ls' := [zU, zU, zU]) rfl rfl ?_
        exact h28
theorem t_X6_readDeeper_31 {E : zEv} {D : Nat} {post : Int32 → zM → Prop} {px : String → zM → Prop} {M : zM}    (h : w_X6_readDeeper_32 E D post px (0 : Int32) M) : w_X6_readDeeper_31 E D post px  M := by
  show Z E jX6_readDeeper (D + 1) 0 (zQi post px) 31 0 [zU, zU, zU] [] M
  refine z_iconst (v := (0 : Int32)) dX6_readDeeper_31 rfl ?_
  exact h
theorem t_X6_readDeeper_32 {E : zEv} {D : Nat} {post : Int32 → zM → Prop} {px : String → zM → Prop} {M : zM}   {s0 : Int32} (h : (s0 = 0 ∨ s0 = 1) ∧ post s0 M) : w_X6_readDeeper_32 E D post px s0 M := by
  show Z E jX6_readDeeper (D + 1) 0 (zQi post px) 32 0 [zU, zU, zU] [.int s0] M
  obtain ⟨g2, h1⟩ := h
  exact z_iret dX6_readDeeper_32 rfl (zbool g2) (by decide) h1
def w_X6_readSum_2 (E : zEv) (D : Nat) (post : Int32 → zM → Prop) (px : String → zM → Prop)  (y2 : Int32) (M : zM) : Prop := Z E jX6_readSum (D + 1) 0 (zQi post px) 2 0 [.ref 22, .ref 20, .int y2, zU, zU] [] M
def w_X6_readSum_31 (E : zEv) (D : Nat) (post : Int32 → zM → Prop) (px : String → zM → Prop)  (y2 : Int32) (y3 : Int32) (s0 : Int32) (M : zM) : Prop := Z E jX6_readSum (D + 1) 0 (zQi post px) 31 0 [.ref 22, .ref 20, .int y2, .int y3, zU] [.int s0] M
def w_X6_readSum_69 (E : zEv) (D : Nat) (post : Int32 → zM → Prop) (px : String → zM → Prop)  (y2 : Int32) (M : zM) : Prop := Z E jX6_readSum (D + 1) 0 (zQi post px) 69 0 [.ref 22, .ref 20, .int y2, zU, zU] [] M
def w_X6_readSum_79 (E : zEv) (D : Nat) (post : Int32 → zM → Prop) (px : String → zM → Prop)  (y2 : Int32) (M : zM) : Prop := Z E jX6_readSum (D + 1) 0 (zQi post px) 79 0 [.ref 22, .ref 20, .int y2, zU, zU] [] M
theorem e_X6_readSum {E : zEv} {D : Nat} {post : Int32 → zM → Prop} {px : String → zM → Prop} {M : zM}   (h : w_X6_readSum_2 E D post px (0 : Int32) M) : zCi E jX6_readSum (D + 1) 0 [.ref 22, .ref 20] M post px := by
  refine z_meth (by decide) (Nat.le_of_ble_eq_true rfl) ?_
  show Z E jX6_readSum (D + 1) 0 (zQi post px) 0 0 [.ref 22, .ref 20, zU, zU, zU] [] M
  refine z_iconst (v := (0 : Int32)) dX6_readSum_0 rfl ?_
  refine z_istore_n dX6_readSum_1 (by decide) (ls' := [.ref 22, .ref 20, .int (0 : Int32), zU, zU]) rfl ?_
  exact h
theorem t_X6_readSum_2 {E : zEv} {D : Nat} {post : Int32 → zM → Prop} {px : String → zM → Prop} {M : zM}   {y2 : Int32} (h : (((400 : Int32) ≤ y2 → post (0 : Int32) M) ∧ (¬ (400 : Int32) ≤ y2 → zCi E jX6_factHere D 0 [.ref 20] M (fun r6 M4 => ((¬ r6 = (-1 : Int32) → w_X6_readSum_31 E D post px y2 r6 (-1 : Int32) M4) ∧ (r6 = (-1 : Int32) → zCi E jX9_takeNumber D 0 [.ref 20, .int (0 : Int32), .int (999 : Int32)] M4 (fun r12 M10 => w_X6_readSum_31 E D post px y2 r6 r12 M10) px))) px))) : w_X6_readSum_2 E D post px y2 M := by
  show Z E jX6_readSum (D + 1) 0 (zQi post px) 2 0 [.ref 22, .ref 20, .int y2, zU, zU] [] M
  refine z_iload_n dX6_readSum_2 rfl ?_
  refine z_sipush (v := (400 : Int32)) dX6_readSum_3 rfl ?_
  refine z_icmp_ge (tgt := 96) dX6_readSum_6 (by decide) (fun g1 => ?_) (fun g1 => ?_)
  · have h2 := h.1 g1
    refine z_iconst (v := (0 : Int32)) dX6_readSum_96 rfl ?_
    exact z_iret dX6_readSum_97 rfl (by decide) (by decide) h2
  · have h3 := h.2 g1
    refine z_aload_n dX6_readSum_9 rfl ?_
    refine z_callSi (As := [.ref 20]) (st := []) dX6_readSum_10 zi_X6_125 rfl rfl (Nat.le_of_ble_eq_true rfl) (by decide) (fun _ _ hx => hx) h3 ?_
    intro r6 M4 h5
    refine z_istore_n dX6_readSum_13 (by decide) (ls' := [.ref 22, .ref 20, .int y2, .int r6, zU]) rfl ?_
    refine z_iload_n dX6_readSum_14 rfl ?_
    refine z_iconst (v := (-1 : Int32)) dX6_readSum_15 rfl ?_
    refine z_icmp_ne (tgt := 30) dX6_readSum_16 (by decide) (fun g7 => ?_) (fun g7 => ?_)
    · have h8 := h5.1 g7
      refine z_iconst (v := (-1 : Int32)) dX6_readSum_30 rfl ?_
      exact h8
    · have h9 := h5.2 g7
      refine z_aload_n dX6_readSum_19 rfl ?_
      refine z_iconst (v := (0 : Int32)) dX6_readSum_20 rfl ?_
      refine z_sipush (v := (999 : Int32)) dX6_readSum_21 rfl ?_
      refine z_callVi (As := [.int (0 : Int32), .int (999 : Int32)]) (st := []) dX6_readSum_24 zi_X6_67 rfl rfl zs_20 rfl rfl (Nat.le_of_ble_eq_true rfl) (by decide) (fun _ _ hx => hx) h9 ?_
      intro r12 M10 h11
      refine z_goto (tgt := 31) dX6_readSum_27 (by decide) ?_
      exact h11
theorem t_X6_readSum_31 {E : zEv} {D : Nat} {post : Int32 → zM → Prop} {px : String → zM → Prop} {M : zM}   {y2 : Int32} {y3 : Int32} {s0 : Int32} (h : ((y3 = (-1 : Int32) → ((s0 = (-1 : Int32) → post (0 : Int32) M) ∧ (¬ s0 = (-1 : Int32) → zCv E jX6_addStep D 0 [.ref 22, .int s0] M (fun M7 => w_X6_readSum_69 E D post px y2 M7) px))) ∧ (¬ y3 = (-1 : Int32) → zCv E jX9_advance D 0 [.ref 20] M (fun M9 => zCv E jX6_addStep D 0 [.ref 22, .int ((-1 : Int32) - y3)] M9 (fun M11 => w_X6_readSum_69 E D post px y2 M11) px) px))) : w_X6_readSum_31 E D post px y2 y3 s0 M := by
  show Z E jX6_readSum (D + 1) 0 (zQi post px) 31 0 [.ref 22, .ref 20, .int y2, .int y3, zU] [.int s0] M
  refine z_istore dX6_readSum_31 (by decide) (ls' := [.ref 22, .ref 20, .int y2, .int y3, .int s0]) rfl ?_
  refine z_iload_n dX6_readSum_33 rfl ?_
  refine z_iconst (v := (-1 : Int32)) dX6_readSum_34 rfl ?_
  refine z_icmp_eq (tgt := 52) dX6_readSum_35 (by decide) (fun g1 => ?_) (fun g1 => ?_)
  · have h2 := h.1 g1
    refine z_iload dX6_readSum_52 rfl ?_
    refine z_iconst (v := (-1 : Int32)) dX6_readSum_54 rfl ?_
    refine z_icmp_eq (tgt := 67) dX6_readSum_55 (by decide) (fun g4 => ?_) (fun g4 => ?_)
    · have h5 := h2.1 g4
      refine z_iconst (v := (0 : Int32)) dX6_readSum_67 rfl ?_
      exact z_iret dX6_readSum_68 rfl (by decide) (by decide) h5
    · have h6 := h2.2 g4
      refine z_aload_n dX6_readSum_58 rfl ?_
      refine z_iload dX6_readSum_59 rfl ?_
      refine z_callVv (As := [.int s0]) (st := []) dX6_readSum_61 zi_X6_99 rfl rfl zs_22 rfl rfl (Nat.le_of_ble_eq_true rfl) (by decide) (fun _ _ hx => hx) h6 ?_
      intro M7 h8
      refine z_goto (tgt := 69) dX6_readSum_64 (by decide) ?_
      refine z_weak [true, true, true, false, false] (ls' := [.ref 22, .ref 20, .int y2, zU, zU]) rfl rfl ?_
      exact h8
  · have h3 := h.2 g1
    refine z_aload_n dX6_readSum_38 rfl ?_
    refine z_callVv (As := []) (st := []) dX6_readSum_39 zi_X6_64 rfl rfl zs_20 rfl rfl (Nat.le_of_ble_eq_true rfl) (by decide) (fun _ _ hx => hx) h3 ?_
    intro M9 h10
    refine z_aload_n dX6_readSum_42 rfl ?_
    refine z_iconst (v := (-1 : Int32)) dX6_readSum_43 rfl ?_
    refine z_iload_n dX6_readSum_44 rfl ?_
    refine z_isub dX6_readSum_45 ?_
    refine z_callVv (As := [.int ((-1 : Int32) - y3)]) (st := []) dX6_readSum_46 zi_X6_99 rfl rfl zs_22 rfl rfl (Nat.le_of_ble_eq_true rfl) (by decide) (fun _ _ hx => hx) h10 ?_
    intro M11 h12
    refine z_goto (tgt := 69) dX6_readSum_49 (by decide) ?_
    refine z_weak [true, true, true, false, false] (ls' := [.ref 22, .ref 20, .int y2, zU, zU]) rfl rfl ?_
    exact h12
theorem t_X6_readSum_69 {E : zEv} {D : Nat} {post : Int32 → zM → Prop} {px : String → zM → Prop} {M : zM}   {y2 : Int32} (h : ((y2 ≤ 0 → w_X6_readSum_79 E D post px y2 M) ∧ (¬ y2 ≤ 0 → zCv E jX6_addStep D 0 [.ref 22, .int (-21 : Int32)] M (fun M4 => w_X6_readSum_79 E D post px y2 M4) px))) : w_X6_readSum_69 E D post px y2 M := by
  show Z E jX6_readSum (D + 1) 0 (zQi post px) 69 0 [.ref 22, .ref 20, .int y2, zU, zU] [] M
  refine z_iload_n dX6_readSum_69 rfl ?_
  refine z_if_le (tgt := 79) dX6_readSum_70 (by decide) (fun g1 => ?_) (fun g1 => ?_)
  · have h2 := h.1 g1
    exact h2
  · have h3 := h.2 g1
    refine z_aload_n dX6_readSum_73 rfl ?_
    refine z_bipush (v := (-21 : Int32)) dX6_readSum_74 rfl ?_
    refine z_callVv (As := [.int (-21 : Int32)]) (st := []) dX6_readSum_76 zi_X6_99 rfl rfl zs_22 rfl rfl (Nat.le_of_ble_eq_true rfl) (by decide) (fun _ _ hx => hx) h3 ?_
    intro M4 h5
    exact h5
theorem t_X6_readSum_79 {E : zEv} {D : Nat} {post : Int32 → zM → Prop} {px : String → zM → Prop} {M : zM}   {y2 : Int32} (h : zCi E jX9_takeSign D 0 [.ref 20, .int (43 : Int32)] M (fun r3 M1 => ((¬ r3 = 0 → w_X6_readSum_2 E D post px (y2 + (1 : Int32)) M1) ∧ (r3 = 0 → post (1 : Int32) M1))) px) : w_X6_readSum_79 E D post px y2 M := by
  show Z E jX6_readSum (D + 1) 0 (zQi post px) 79 0 [.ref 22, .ref 20, .int y2, zU, zU] [] M
  refine z_aload_n dX6_readSum_79 rfl ?_
  refine z_bipush (v := (43 : Int32)) dX6_readSum_80 rfl ?_
  refine z_callVi (As := [.int (43 : Int32)]) (st := []) dX6_readSum_82 zi_X6_56 rfl rfl zs_20 rfl rfl (Nat.le_of_ble_eq_true rfl) (by decide) (fun _ _ hx => hx) h ?_
  intro r3 M1 h2
  refine z_if_ne (tgt := 90) dX6_readSum_85 (by decide) (fun g4 => ?_) (fun g4 => ?_)
  · have h5 := h2.1 g4
    refine z_iinc dX6_readSum_90 rfl (by decide) (ls' := [.ref 22, .ref 20, .int (y2 + (1 : Int32)), zU, zU]) rfl ?_
    refine z_goto (tgt := 2) dX6_readSum_93 (by decide) ?_
    exact h5
  · have h6 := h2.2 g4
    refine z_iconst (v := (1 : Int32)) dX6_readSum_88 rfl ?_
    exact z_iret dX6_readSum_89 rfl (by decide) (by decide) h6
def w_X6_factHere_93 (E : zEv) (D : Nat) (post : Int32 → zM → Prop) (px : String → zM → Prop)  (s0 : Int32) (M : zM) : Prop := Z E jX6_factHere (D + 1) 0 (zQi post px) 93 0 [zU] [.int s0] M
theorem e_X6_factHere {E : zEv} {D : Nat} {post : Int32 → zM → Prop} {px : String → zM → Prop} {M : zM}   (h : zCi E jX9_isWord D 0 [.ref 20, .ref (271 + 0)] M (fun r3 M1 => ((r3 = 0 → zCi E jX9_isWord D 0 [.ref 20, .ref (271 + 1)] M1 (fun r9 M7 => ((r9 = 0 → zCi E jX9_isWord D 0 [.ref 20, .ref (271 + 2)] M7 (fun r15 M13 => ((r15 = 0 → zCi E jX9_isWord D 0 [.ref 20, .ref (271 + 3)] M13 (fun r21 M19 => ((r21 = 0 → zCi E jX9_isWord D 0 [.ref 20, .ref (271 + 4)] M19 (fun r27 M25 => ((r27 = 0 → zCi E jX9_isWord D 0 [.ref 20, .ref (271 + 12)] M25 (fun r33 M31 => ((r33 = 0 → zCi E jX9_isWord D 0 [.ref 20, .ref (271 + 6)] M31 (fun r39 M37 => ((r39 = 0 → zCi E jX9_isWord D 0 [.ref 20, .ref (271 + 26)] M37 (fun r45 M43 => ((r45 = 0 → w_X6_factHere_93 E D post px (-1 : Int32) M43) ∧ (¬ r45 = 0 → w_X6_factHere_93 E D post px (7 : Int32) M43))) px) ∧ (¬ r39 = 0 → post (6 : Int32) M37))) px) ∧ (¬ r33 = 0 → post (5 : Int32) M31))) px) ∧ (¬ r27 = 0 → post (4 : Int32) M25))) px) ∧ (¬ r21 = 0 → post (3 : Int32) M19))) px) ∧ (¬ r15 = 0 → post (2 : Int32) M13))) px) ∧ (¬ r9 = 0 → post (1 : Int32) M7))) px) ∧ (¬ r3 = 0 → post (0 : Int32) M1))) px) : zCi E jX6_factHere (D + 1) 0 [.ref 20] M post px := by
  refine z_meth (by decide) (Nat.le_of_ble_eq_true rfl) ?_
  show Z E jX6_factHere (D + 1) 0 (zQi post px) 0 0 [.ref 20] [] M
  refine z_aload_n dX6_factHere_0 rfl ?_
  refine z_ldcS (i := 26) dX6_factHere_1 rfl ?_
  refine z_callVi (As := [.ref (271 + 0)]) (st := []) dX6_factHere_3 zi_X6_87 rfl rfl zs_20 rfl rfl (Nat.le_of_ble_eq_true rfl) (by decide) (fun _ _ hx => hx) h ?_
  intro r3 M1 h2
  refine z_if_eq (tgt := 11) dX6_factHere_6 (by decide) (fun g4 => ?_) (fun g4 => ?_)
  · have h5 := h2.1 g4
    refine z_aload_n dX6_factHere_11 rfl ?_
    refine z_ldcS (i := 27) dX6_factHere_12 rfl ?_
    refine z_callVi (As := [.ref (271 + 1)]) (st := []) dX6_factHere_14 zi_X6_87 rfl rfl zs_20 rfl rfl (Nat.le_of_ble_eq_true rfl) (by decide) (fun _ _ hx => hx) h5 ?_
    intro r9 M7 h8
    refine z_if_eq (tgt := 22) dX6_factHere_17 (by decide) (fun g10 => ?_) (fun g10 => ?_)
    · have h11 := h8.1 g10
      refine z_aload_n dX6_factHere_22 rfl ?_
      refine z_ldcS (i := 28) dX6_factHere_23 rfl ?_
      refine z_callVi (As := [.ref (271 + 2)]) (st := []) dX6_factHere_25 zi_X6_87 rfl rfl zs_20 rfl rfl (Nat.le_of_ble_eq_true rfl) (by decide) (fun _ _ hx => hx) h11 ?_
      intro r15 M13 h14
      refine z_if_eq (tgt := 33) dX6_factHere_28 (by decide) (fun g16 => ?_) (fun g16 => ?_)
      · have h17 := h14.1 g16
        refine z_aload_n dX6_factHere_33 rfl ?_
        refine z_ldcS (i := 29) dX6_factHere_34 rfl ?_
        refine z_callVi (As := [.ref (271 + 3)]) (st := []) dX6_factHere_36 zi_X6_87 rfl rfl zs_20 rfl rfl (Nat.le_of_ble_eq_true rfl) (by decide) (fun _ _ hx => hx) h17 ?_
        intro r21 M19 h20
        refine z_if_eq (tgt := 44) dX6_factHere_39 (by decide) (fun g22 => ?_) (fun g22 => ?_)
        · have h23 := h20.1 g22
          refine z_aload_n dX6_factHere_44 rfl ?_
          refine z_ldcS (i := 30) dX6_factHere_45 rfl ?_
          refine z_callVi (As := [.ref (271 + 4)]) (st := []) dX6_factHere_47 zi_X6_87 rfl rfl zs_20 rfl rfl (Nat.le_of_ble_eq_true rfl) (by decide) (fun _ _ hx => hx) h23 ?_
          intro r27 M25 h26
          refine z_if_eq (tgt := 55) dX6_factHere_50 (by decide) (fun g28 => ?_) (fun g28 => ?_)
          · have h29 := h26.1 g28
            refine z_aload_n dX6_factHere_55 rfl ?_
            refine z_ldcS (i := 31) dX6_factHere_56 rfl ?_
            refine z_callVi (As := [.ref (271 + 12)]) (st := []) dX6_factHere_58 zi_X6_87 rfl rfl zs_20 rfl rfl (Nat.le_of_ble_eq_true rfl) (by decide) (fun _ _ hx => hx) h29 ?_
            intro r33 M31 h32
            refine z_if_eq (tgt := 66) dX6_factHere_61 (by decide) (fun g34 => ?_) (fun g34 => ?_)
            · have h35 := h32.1 g34
              refine z_aload_n dX6_factHere_66 rfl ?_
              refine z_ldcS (i := 32) dX6_factHere_67 rfl ?_
              refine z_callVi (As := [.ref (271 + 6)]) (st := []) dX6_factHere_69 zi_X6_87 rfl rfl zs_20 rfl rfl (Nat.le_of_ble_eq_true rfl) (by decide) (fun _ _ hx => hx) h35 ?_
              intro r39 M37 h38
              refine z_if_eq (tgt := 78) dX6_factHere_72 (by decide) (fun g40 => ?_) (fun g40 => ?_)
              · have h41 := h38.1 g40
                refine z_aload_n dX6_factHere_78 rfl ?_
                refine z_ldcS (i := 33) dX6_factHere_79 rfl ?_
                refine z_callVi (As := [.ref (271 + 26)]) (st := []) dX6_factHere_81 zi_X6_87 rfl rfl zs_20 rfl rfl (Nat.le_of_ble_eq_true rfl) (by decide) (fun _ _ hx => hx) h41 ?_
                intro r45 M43 h44
                refine z_if_eq (tgt := 92) dX6_factHere_84 (by decide) (fun g46 => ?_) (fun g46 => ?_)
                · have h47 := h44.1 g46
                  refine z_iconst (v := (-1 : Int32)) dX6_factHere_92 rfl ?_
                  refine z_weak [false] (ls' := [zU]) rfl rfl ?_
                  exact h47
                · have h48 := h44.2 g46
                  refine z_bipush (v := (7 : Int32)) dX6_factHere_87 rfl ?_
                  refine z_goto (tgt := 93) dX6_factHere_89 (by decide) ?_
                  refine z_weak [false] (ls' := [zU]) rfl rfl ?_
                  exact h48
              · have h42 := h38.2 g40
                refine z_bipush (v := (6 : Int32)) dX6_factHere_75 rfl ?_
                exact z_iret dX6_factHere_77 rfl rfl (by decide) h42
            · have h36 := h32.2 g34
              refine z_iconst (v := (5 : Int32)) dX6_factHere_64 rfl ?_
              exact z_iret dX6_factHere_65 rfl rfl (by decide) h36
          · have h30 := h26.2 g28
            refine z_iconst (v := (4 : Int32)) dX6_factHere_53 rfl ?_
            exact z_iret dX6_factHere_54 rfl rfl (by decide) h30
        · have h24 := h20.2 g22
          refine z_iconst (v := (3 : Int32)) dX6_factHere_42 rfl ?_
          exact z_iret dX6_factHere_43 rfl rfl (by decide) h24
      · have h18 := h14.2 g16
        refine z_iconst (v := (2 : Int32)) dX6_factHere_31 rfl ?_
        exact z_iret dX6_factHere_32 rfl rfl (by decide) h18
    · have h12 := h8.2 g10
      refine z_iconst (v := (1 : Int32)) dX6_factHere_20 rfl ?_
      exact z_iret dX6_factHere_21 rfl rfl (by decide) h12
  · have h6 := h2.2 g4
    refine z_iconst (v := (0 : Int32)) dX6_factHere_9 rfl ?_
    exact z_iret dX6_factHere_10 rfl rfl (by decide) h6
theorem t_X6_factHere_93 {E : zEv} {D : Nat} {post : Int32 → zM → Prop} {px : String → zM → Prop} {M : zM}   {s0 : Int32} (h : post s0 M) : w_X6_factHere_93 E D post px s0 M := by
  show Z E jX6_factHere (D + 1) 0 (zQi post px) 93 0 [zU] [.int s0] M
  exact z_iret dX6_factHere_93 rfl rfl (by decide) h
def w_X6_begin_16 (E : zEv) (D : Nat) (post : zM → Prop) (px : String → zM → Prop)   (M : zM) : Prop := Z E jX6_begin D 0 (zQv post px) 16 0 [zU, zU, zU] [] M
theorem e_X6_begin {E : zEv} {D : Nat} {post : zM → Prop} {px : String → zM → Prop} {M : zM} {x1 : Int32} {x2 : Int32}  (h : (((M.1 22 6) < 0 → w_X6_begin_16 E D post px  M) ∧ (¬ (M.1 22 6) < 0 → (((M.1 22 6) < (12 : Int32) → vp_in (M.1 22 6) 12 ∧ ∀ M9 : zM, M9 = zup M 23 ((M.1 22 6)).toNatClampNeg x1 → vp_in (M9.1 22 6) 12 ∧ ∀ M13 : zM, M13 = zup M9 24 ((M9.1 22 6)).toNatClampNeg x2 → vp_in (M13.1 22 6) 12 ∧ ∀ M17 : zM, M17 = zup M13 25 ((M13.1 22 6)).toNatClampNeg (M13.1 22 7) → ∀ M19 : zM, M19 = zup M17 22 6 ((M17.1 22 6) + (1 : Int32)) → post M19) ∧ (¬ (M.1 22 6) < (12 : Int32) → w_X6_begin_16 E D post px  M))))) : zCv E jX6_begin D 0 [.ref 22, .int x1, .int x2] M post px := by
  refine z_meth (by decide) (Nat.le_of_ble_eq_true rfl) ?_
  show Z E jX6_begin D 0 (zQv post px) 0 0 [.ref 22, .int x1, .int x2] [] M
  refine z_aload_n dX6_begin_0 rfl ?_
  refine z_getI dX6_begin_1 zg_X6_30 zs_22 rfl ?_
  refine z_if_lt (tgt := 16) dX6_begin_4 (by decide) (fun g1 => ?_) (fun g1 => ?_)
  · have h2 := h.1 g1
    refine z_weak [false, false, false] (ls' := [zU, zU, zU]) rfl rfl ?_
    exact h2
  · have h3 := h.2 g1
    refine z_aload_n dX6_begin_7 rfl ?_
    refine z_getI dX6_begin_8 zg_X6_30 zs_22 rfl ?_
    refine z_bipush (v := (12 : Int32)) dX6_begin_11 rfl ?_
    refine z_icmp_lt (tgt := 17) dX6_begin_13 (by decide) (fun g4 => ?_) (fun g4 => ?_)
    · have h5 := h3.1 g4
      refine z_aload_n dX6_begin_17 rfl ?_
      refine z_getR dX6_begin_18 zg_X6_9 zs_22 rfl ?_
      refine z_aload_n dX6_begin_21 rfl ?_
      refine z_getI dX6_begin_22 zg_X6_30 zs_22 rfl ?_
      refine z_iload_n dX6_begin_25 rfl ?_
      obtain ⟨g8, h7⟩ := h5
      refine z_iast dX6_begin_26 zs_23 g8 ?_
      generalize hhM9 : zup M 23 ((M.1 22 6)).toNatClampNeg x1 = M9
      have h10 := h7 M9 hhM9.symm
      refine z_aload_n dX6_begin_27 rfl ?_
      refine z_getR dX6_begin_28 zg_X6_15 zs_22 rfl ?_
      refine z_aload_n dX6_begin_31 rfl ?_
      refine z_getI dX6_begin_32 zg_X6_30 zs_22 rfl ?_
      refine z_iload_n dX6_begin_35 rfl ?_
      obtain ⟨g12, h11⟩ := h10
      refine z_iast dX6_begin_36 zs_24 g12 ?_
      generalize hhM13 : zup M9 24 ((M9.1 22 6)).toNatClampNeg x2 = M13
      have h14 := h11 M13 hhM13.symm
      refine z_aload_n dX6_begin_37 rfl ?_
      refine z_getR dX6_begin_38 zg_X6_18 zs_22 rfl ?_
      refine z_aload_n dX6_begin_41 rfl ?_
      refine z_getI dX6_begin_42 zg_X6_30 zs_22 rfl ?_
      refine z_aload_n dX6_begin_45 rfl ?_
      refine z_getI dX6_begin_46 zg_X6_34 zs_22 rfl ?_
      obtain ⟨g16, h15⟩ := h14
      refine z_iast dX6_begin_49 zs_25 g16 ?_
      generalize hhM17 : zup M13 25 ((M13.1 22 6)).toNatClampNeg (M13.1 22 7) = M17
      have h18 := h15 M17 hhM17.symm
      refine z_aload_n dX6_begin_50 rfl ?_
      refine z_dup dX6_begin_51 rfl ?_
      refine z_getI dX6_begin_52 zg_X6_30 zs_22 rfl ?_
      refine z_iconst (v := (1 : Int32)) dX6_begin_55 rfl ?_
      refine z_iadd dX6_begin_56 ?_
      refine z_putI dX6_begin_57 zp_X6_30 zs_22 rfl rfl rfl ?_
      generalize hhM19 : zup M17 22 6 ((M17.1 22 6) + (1 : Int32)) = M19
      have h20 := h18 M19 hhM19.symm
      exact z_vret dX6_begin_60 rfl (by decide) h20
    · have h6 := h3.2 g4
      refine z_weak [false, false, false] (ls' := [zU, zU, zU]) rfl rfl ?_
      exact h6
theorem t_X6_begin_16 {E : zEv} {D : Nat} {post : zM → Prop} {px : String → zM → Prop} {M : zM}    (h : post M) : w_X6_begin_16 E D post px  M := by
  show Z E jX6_begin D 0 (zQv post px) 16 0 [zU, zU, zU] [] M
  exact z_vret dX6_begin_16 rfl (by decide) h
def w_X6_addStep_18 (E : zEv) (D : Nat) (post : zM → Prop) (px : String → zM → Prop)   (M : zM) : Prop := Z E jX6_addStep D 0 (zQv post px) 18 0 [zU, zU] [] M
theorem e_X6_addStep {E : zEv} {D : Nat} {post : zM → Prop} {px : String → zM → Prop} {M : zM} {x1 : Int32}  (h : (((400 : Int32) ≤ (M.1 22 7) → w_X6_addStep_18 E D post px  M) ∧ (¬ (400 : Int32) ≤ (M.1 22 7) → (((1 : Int32) ≤ (M.1 22 6) → vp_in (M.1 22 7) 400 ∧ ∀ M9 : zM, M9 = zup M 26 ((M.1 22 7)).toNatClampNeg x1 → ∀ M11 : zM, M11 = zup M9 22 7 ((M9.1 22 7) + (1 : Int32)) → vp_in ((M11.1 22 6) - (1 : Int32)) 12 ∧ ∀ M15 : zM, M15 = zup M11 25 (((M11.1 22 6) - (1 : Int32))).toNatClampNeg (M11.1 22 7) → post M15) ∧ (¬ (1 : Int32) ≤ (M.1 22 6) → w_X6_addStep_18 E D post px  M))))) : zCv E jX6_addStep D 0 [.ref 22, .int x1] M post px := by
  refine z_meth (by decide) (Nat.le_of_ble_eq_true rfl) ?_
  show Z E jX6_addStep D 0 (zQv post px) 0 0 [.ref 22, .int x1] [] M
  refine z_aload_n dX6_addStep_0 rfl ?_
  refine z_getI dX6_addStep_1 zg_X6_34 zs_22 rfl ?_
  refine z_sipush (v := (400 : Int32)) dX6_addStep_4 rfl ?_
  refine z_icmp_ge (tgt := 18) dX6_addStep_7 (by decide) (fun g1 => ?_) (fun g1 => ?_)
  · have h2 := h.1 g1
    refine z_weak [false, false] (ls' := [zU, zU]) rfl rfl ?_
    exact h2
  · have h3 := h.2 g1
    refine z_aload_n dX6_addStep_10 rfl ?_
    refine z_getI dX6_addStep_11 zg_X6_30 zs_22 rfl ?_
    refine z_iconst (v := (1 : Int32)) dX6_addStep_14 rfl ?_
    refine z_icmp_ge (tgt := 19) dX6_addStep_15 (by decide) (fun g4 => ?_) (fun g4 => ?_)
    · have h5 := h3.1 g4
      refine z_aload_n dX6_addStep_19 rfl ?_
      refine z_getR dX6_addStep_20 zg_X6_21 zs_22 rfl ?_
      refine z_aload_n dX6_addStep_23 rfl ?_
      refine z_getI dX6_addStep_24 zg_X6_34 zs_22 rfl ?_
      refine z_iload_n dX6_addStep_27 rfl ?_
      obtain ⟨g8, h7⟩ := h5
      refine z_iast dX6_addStep_28 zs_26 g8 ?_
      generalize hhM9 : zup M 26 ((M.1 22 7)).toNatClampNeg x1 = M9
      have h10 := h7 M9 hhM9.symm
      refine z_aload_n dX6_addStep_29 rfl ?_
      refine z_dup dX6_addStep_30 rfl ?_
      refine z_getI dX6_addStep_31 zg_X6_34 zs_22 rfl ?_
      refine z_iconst (v := (1 : Int32)) dX6_addStep_34 rfl ?_
      refine z_iadd dX6_addStep_35 ?_
      refine z_putI dX6_addStep_36 zp_X6_34 zs_22 rfl rfl rfl ?_
      generalize hhM11 : zup M9 22 7 ((M9.1 22 7) + (1 : Int32)) = M11
      have h12 := h10 M11 hhM11.symm
      refine z_aload_n dX6_addStep_39 rfl ?_
      refine z_getR dX6_addStep_40 zg_X6_18 zs_22 rfl ?_
      refine z_aload_n dX6_addStep_43 rfl ?_
      refine z_getI dX6_addStep_44 zg_X6_30 zs_22 rfl ?_
      refine z_iconst (v := (1 : Int32)) dX6_addStep_47 rfl ?_
      refine z_isub dX6_addStep_48 ?_
      refine z_aload_n dX6_addStep_49 rfl ?_
      refine z_getI dX6_addStep_50 zg_X6_34 zs_22 rfl ?_
      obtain ⟨g14, h13⟩ := h12
      refine z_iast dX6_addStep_53 zs_25 g14 ?_
      generalize hhM15 : zup M11 25 (((M11.1 22 6) - (1 : Int32))).toNatClampNeg (M11.1 22 7) = M15
      have h16 := h13 M15 hhM15.symm
      exact z_vret dX6_addStep_54 rfl (by decide) h16
    · have h6 := h3.2 g4
      refine z_weak [false, false] (ls' := [zU, zU]) rfl rfl ?_
      exact h6
theorem t_X6_addStep_18 {E : zEv} {D : Nat} {post : zM → Prop} {px : String → zM → Prop} {M : zM}    (h : post M) : w_X6_addStep_18 E D post px  M := by
  show Z E jX6_addStep D 0 (zQv post px) 18 0 [zU, zU] [] M
  exact z_vret dX6_addStep_18 rfl (by decide) h
def w_X6_sum_14 (E : zEv) (D : Nat) (post : Int32 → zM → Prop) (px : String → zM → Prop) (c : Nat) (y1 : Int32) (y5 : Int32) (y6 : Int32) (M : zM) : Prop := Z E jX6_sum (D + 1) 0 (zQi post px) 14 0 [.ref 36, .int y1, zU, zU, zU, .int y5, .int y6] [] M
def w_X6_sum_55 (E : zEv) (D : Nat) (post : Int32 → zM → Prop) (px : String → zM → Prop) (c : Nat) (y1 : Int32) (y5 : Int32) (y6 : Int32) (M : zM) : Prop := Z E jX6_sum (D + 1) 0 (zQi post px) 55 0 [.ref 36, .int y1, zU, zU, zU, .int y5, .int y6] [] M
theorem e_X6_sum {E : zEv} {D : Nat} {post : Int32 → zM → Prop} {px : String → zM → Prop} {M : zM} {x1 : Int32} {c : Nat} {x3 : Int32} {x4 : Int32} (hc : zIsC c) (h : zCv E jX6_note D 0 [.ref 36, .ref c, .int x3, .int x4] M (fun M1 => w_X6_sum_14 E D post px c x1 (0 : Int32) (0 : Int32) M1) px) : zCi E jX6_sum (D + 1) 0 [.ref 36, .int x1, .ref c, .int x3, .int x4] M post px := by
  refine z_meth (by decide) (Nat.le_of_ble_eq_true rfl) ?_
  show Z E jX6_sum (D + 1) 0 (zQi post px) 0 0 [.ref 36, .int x1, .ref c, .int x3, .int x4, zU, zU] [] M
  refine z_aload_n dX6_sum_0 rfl ?_
  refine z_aload_n dX6_sum_1 rfl ?_
  refine z_iload_n dX6_sum_2 rfl ?_
  refine z_iload dX6_sum_3 rfl ?_
  refine z_callVv (As := [.ref c, .int x3, .int x4]) (st := []) dX6_sum_5 zi_X6_144 rfl rfl zs_36 rfl rfl (Nat.le_of_ble_eq_true rfl) (by decide) (fun _ _ hx => hx) h ?_
  intro M1 h2
  refine z_iconst (v := (0 : Int32)) dX6_sum_8 rfl ?_
  refine z_istore dX6_sum_9 (by decide) (ls' := [.ref 36, .int x1, .ref c, .int x3, .int x4, .int (0 : Int32), zU]) rfl ?_
  refine z_iconst (v := (0 : Int32)) dX6_sum_11 rfl ?_
  refine z_istore dX6_sum_12 (by decide) (ls' := [.ref 36, .int x1, .ref c, .int x3, .int x4, .int (0 : Int32), .int (0 : Int32)]) rfl ?_
  refine z_weak [true, true, false, false, false, true, true] (ls' := [.ref 36, .int x1, zU, zU, zU, .int (0 : Int32), .int (0 : Int32)]) rfl rfl ?_
  exact h2
theorem t_X6_sum_14 {E : zEv} {D : Nat} {post : Int32 → zM → Prop} {px : String → zM → Prop} {M : zM} {c : Nat} (hc : zIsC c) {y1 : Int32} {y5 : Int32} {y6 : Int32} (h : (((M.1 36 6) ≤ y6 → post y5 M) ∧ (¬ (M.1 36 6) ≤ y6 → vp_in y6 12 ∧ ((¬ (M.1 37 (y6).toNatClampNeg) = y1 → w_X6_sum_55 E D post px c y1 y5 y6 M) ∧ ((M.1 37 (y6).toNatClampNeg) = y1 → zCi E jX6_holds D 0 [.ref 36, .int y6] M (fun r11 M9 => ((r11 = 0 → w_X6_sum_55 E D post px c y1 y5 y6 M9) ∧ (¬ r11 = 0 → vp_in y6 12 ∧ w_X6_sum_55 E D post px c y1 (y5 + (M9.1 38 (y6).toNatClampNeg)) y6 M9))) px))))) : w_X6_sum_14 E D post px c y1 y5 y6 M := by
  show Z E jX6_sum (D + 1) 0 (zQi post px) 14 0 [.ref 36, .int y1, zU, zU, zU, .int y5, .int y6] [] M
  refine z_iload dX6_sum_14 rfl ?_
  refine z_aload_n dX6_sum_16 rfl ?_
  refine z_getI dX6_sum_17 zg_X6_30 zs_36 rfl ?_
  refine z_icmp_ge (tgt := 61) dX6_sum_20 (by decide) (fun g1 => ?_) (fun g1 => ?_)
  · have h2 := h.1 g1
    refine z_iload dX6_sum_61 rfl ?_
    exact z_iret dX6_sum_63 rfl rfl (by decide) h2
  · have h3 := h.2 g1
    refine z_aload_n dX6_sum_23 rfl ?_
    refine z_getR dX6_sum_24 zg_X6_9 zs_36 rfl ?_
    refine z_iload dX6_sum_27 rfl ?_
    obtain ⟨g5, h4⟩ := h3
    refine z_iald dX6_sum_29 zs_37 g5 ?_
    refine z_iload_n dX6_sum_30 rfl ?_
    refine z_icmp_ne (tgt := 55) dX6_sum_31 (by decide) (fun g6 => ?_) (fun g6 => ?_)
    · have h7 := h4.1 g6
      exact h7
    · have h8 := h4.2 g6
      refine z_aload_n dX6_sum_34 rfl ?_
      refine z_iload dX6_sum_35 rfl ?_
      refine z_callVi (As := [.int y6]) (st := []) dX6_sum_37 zi_X6_148 rfl rfl zs_36 rfl rfl (Nat.le_of_ble_eq_true rfl) (by decide) (fun _ _ hx => hx) h8 ?_
      intro r11 M9 h10
      refine z_if_eq (tgt := 55) dX6_sum_40 (by decide) (fun g12 => ?_) (fun g12 => ?_)
      · have h13 := h10.1 g12
        exact h13
      · have h14 := h10.2 g12
        refine z_iload dX6_sum_43 rfl ?_
        refine z_aload_n dX6_sum_45 rfl ?_
        refine z_getR dX6_sum_46 zg_X6_15 zs_36 rfl ?_
        refine z_iload dX6_sum_49 rfl ?_
        obtain ⟨g16, h15⟩ := h14
        refine z_iald dX6_sum_51 zs_38 g16 ?_
        refine z_iadd dX6_sum_52 ?_
        refine z_istore dX6_sum_53 (by decide) (ls' := [.ref 36, .int y1, zU, zU, zU, .int (y5 + (M9.1 38 (y6).toNatClampNeg)), .int y6]) rfl ?_
        exact h15
theorem t_X6_sum_55 {E : zEv} {D : Nat} {post : Int32 → zM → Prop} {px : String → zM → Prop} {M : zM} {c : Nat} (hc : zIsC c) {y1 : Int32} {y5 : Int32} {y6 : Int32} (h : w_X6_sum_14 E D post px c y1 y5 (y6 + (1 : Int32)) M) : w_X6_sum_55 E D post px c y1 y5 y6 M := by
  show Z E jX6_sum (D + 1) 0 (zQi post px) 55 0 [.ref 36, .int y1, zU, zU, zU, .int y5, .int y6] [] M
  refine z_iinc dX6_sum_55 rfl (by decide) (ls' := [.ref 36, .int y1, zU, zU, zU, .int y5, .int (y6 + (1 : Int32))]) rfl ?_
  refine z_goto (tgt := 14) dX6_sum_58 (by decide) ?_
  exact h
def w_X6_note_116 (E : zEv) (D : Nat) (post : zM → Prop) (px : String → zM → Prop) (c : Nat) (y2 : Int32) (y5 : Int32) (s0 : Int32) (s1 : Int32) (M : zM) : Prop := Z E jX6_note D 0 (zQv post px) 116 0 [.ref 36, zU, .int y2, zU, .ref (c + 1), .int y5] [.int s0, .int s1, .ref 41] M
def w_X6_note_140 (E : zEv) (D : Nat) (post : zM → Prop) (px : String → zM → Prop) (c : Nat) (y5 : Int32) (s0 : Int32) (s1 : Int32) (M : zM) : Prop := Z E jX6_note D 0 (zQv post px) 140 0 [.ref 36, zU, zU, zU, .ref (c + 1), .int y5] [.int s0, .int s1, .ref 41] M
def w_X6_note_164 (E : zEv) (D : Nat) (post : zM → Prop) (px : String → zM → Prop) (c : Nat) (s0 : Int32) (M : zM) : Prop := Z E jX6_note D 0 (zQv post px) 164 0 [zU, zU, zU, zU, zU, zU] [.int s0, .ref 41] M
def w_X6_note_169 (E : zEv) (D : Nat) (post : zM → Prop) (px : String → zM → Prop) (c : Nat) (s0 : Int32) (s1 : Int32) (M : zM) : Prop := Z E jX6_note D 0 (zQv post px) 169 0 [zU, zU, zU, zU, zU, zU] [.int s0, .int s1, .ref 41] M
theorem e_X6_note {E : zEv} {D : Nat} {post : zM → Prop} {px : String → zM → Prop} {M : zM} {c : Nat} {x2 : Int32} {x3 : Int32} (hc : zIsC c) (h : vp_in x2 5 ∧ ∀ M3 : zM, M3 = zup M 41 ((0 : Int32)).toNatClampNeg x2 → vp_in x2 5 ∧ ∀ M7 : zM, M7 = zup M3 41 ((1 : Int32)).toNatClampNeg (M3.1 (c + 2) (x2).toNatClampNeg) → vp_in x2 5 ∧ ∀ M11 : zM, M11 = zup M7 41 ((2 : Int32)).toNatClampNeg (M7.1 (c + 3) (x2).toNatClampNeg) → vp_in x2 5 ∧ ∀ M15 : zM, M15 = zup M11 41 ((3 : Int32)).toNatClampNeg (M11.1 (c + 4) (x2).toNatClampNeg) → vp_in x2 5 ∧ ∀ M19 : zM, M19 = zup M15 41 ((4 : Int32)).toNatClampNeg (M15.1 (c + 5) (x2).toNatClampNeg) → ∀ M21 : zM, M21 = zup M19 41 ((5 : Int32)).toNatClampNeg (M19.1 c 11) → ∀ M23 : zM, M23 = zup M21 41 ((6 : Int32)).toNatClampNeg x3 → ∀ M25 : zM, M25 = zup M23 41 ((7 : Int32)).toNatClampNeg (M.1 (c + 6) (x2).toNatClampNeg) → ((x3 ≤ 0 → w_X6_note_116 E D post px c x2 (M.1 (c + 6) (x2).toNatClampNeg) (0 : Int32) (8 : Int32) M25) ∧ (¬ x3 ≤ 0 → w_X6_note_116 E D post px c x2 (M.1 (c + 6) (x2).toNatClampNeg) (1 : Int32) (8 : Int32) M25))) : zCv E jX6_note D 0 [.ref 36, .ref c, .int x2, .int x3] M post px := by
  refine z_meth (by decide) (Nat.le_of_ble_eq_true rfl) ?_
  show Z E jX6_note D 0 (zQv post px) 0 0 [.ref 36, .ref c, .int x2, .int x3, zU, zU] [] M
  refine z_aload_n dX6_note_0 rfl ?_
  refine z_getR dX6_note_1 zg_X6_152 (zsC_0 hc) rfl ?_
  refine z_astore dX6_note_4 (by decide) (ls' := [.ref 36, .ref c, .int x2, .int x3, .ref (c + 1), zU]) rfl ?_
  refine z_aload dX6_note_6 rfl ?_
  refine z_getR dX6_note_8 zg_X6_158 (zsC_1 hc) rfl ?_
  refine z_iload_n dX6_note_11 rfl ?_
  obtain ⟨g2, h1⟩ := h
  refine z_iald dX6_note_12 (zsC_6 hc) g2 ?_
  refine z_istore dX6_note_13 (by decide) (ls' := [.ref 36, .ref c, .int x2, .int x3, .ref (c + 1), .int (M.1 (c + 6) (x2).toNatClampNeg)]) rfl ?_
  refine z_aload_n dX6_note_15 rfl ?_
  refine z_getR dX6_note_16 zg_X6_24 zs_36 rfl ?_
  refine z_iconst (v := (0 : Int32)) dX6_note_19 rfl ?_
  refine z_iload_n dX6_note_20 rfl ?_
  refine z_iast dX6_note_21 zs_41 (by unfold vp_in; decide) ?_
  generalize hhM3 : zup M 41 ((0 : Int32)).toNatClampNeg x2 = M3
  have h4 := h1 M3 hhM3.symm
  refine z_aload_n dX6_note_22 rfl ?_
  refine z_getR dX6_note_23 zg_X6_24 zs_36 rfl ?_
  refine z_iconst (v := (1 : Int32)) dX6_note_26 rfl ?_
  refine z_aload dX6_note_27 rfl ?_
  refine z_getR dX6_note_29 zg_X6_162 (zsC_1 hc) rfl ?_
  refine z_iload_n dX6_note_32 rfl ?_
  obtain ⟨g6, h5⟩ := h4
  refine z_iald dX6_note_33 (zsC_2 hc) g6 ?_
  refine z_iast dX6_note_34 zs_41 (by unfold vp_in; decide) ?_
  generalize hhM7 : zup M3 41 ((1 : Int32)).toNatClampNeg (M3.1 (c + 2) (x2).toNatClampNeg) = M7
  have h8 := h5 M7 hhM7.symm
  refine z_aload_n dX6_note_35 rfl ?_
  refine z_getR dX6_note_36 zg_X6_24 zs_36 rfl ?_
  refine z_iconst (v := (2 : Int32)) dX6_note_39 rfl ?_
  refine z_aload dX6_note_40 rfl ?_
  refine z_getR dX6_note_42 zg_X6_164 (zsC_1 hc) rfl ?_
  refine z_iload_n dX6_note_45 rfl ?_
  obtain ⟨g10, h9⟩ := h8
  refine z_iald dX6_note_46 (zsC_3 hc) g10 ?_
  refine z_iast dX6_note_47 zs_41 (by unfold vp_in; decide) ?_
  generalize hhM11 : zup M7 41 ((2 : Int32)).toNatClampNeg (M7.1 (c + 3) (x2).toNatClampNeg) = M11
  have h12 := h9 M11 hhM11.symm
  refine z_aload_n dX6_note_48 rfl ?_
  refine z_getR dX6_note_49 zg_X6_24 zs_36 rfl ?_
  refine z_iconst (v := (3 : Int32)) dX6_note_52 rfl ?_
  refine z_aload dX6_note_53 rfl ?_
  refine z_getR dX6_note_55 zg_X6_166 (zsC_1 hc) rfl ?_
  refine z_iload_n dX6_note_58 rfl ?_
  obtain ⟨g14, h13⟩ := h12
  refine z_iald dX6_note_59 (zsC_4 hc) g14 ?_
  refine z_iast dX6_note_60 zs_41 (by unfold vp_in; decide) ?_
  generalize hhM15 : zup M11 41 ((3 : Int32)).toNatClampNeg (M11.1 (c + 4) (x2).toNatClampNeg) = M15
  have h16 := h13 M15 hhM15.symm
  refine z_aload_n dX6_note_61 rfl ?_
  refine z_getR dX6_note_62 zg_X6_24 zs_36 rfl ?_
  refine z_iconst (v := (4 : Int32)) dX6_note_65 rfl ?_
  refine z_aload dX6_note_66 rfl ?_
  refine z_getR dX6_note_68 zg_X6_168 (zsC_1 hc) rfl ?_
  refine z_iload_n dX6_note_71 rfl ?_
  obtain ⟨g18, h17⟩ := h16
  refine z_iald dX6_note_72 (zsC_5 hc) g18 ?_
  refine z_iast dX6_note_73 zs_41 (by unfold vp_in; decide) ?_
  generalize hhM19 : zup M15 41 ((4 : Int32)).toNatClampNeg (M15.1 (c + 5) (x2).toNatClampNeg) = M19
  have h20 := h17 M19 hhM19.symm
  refine z_aload_n dX6_note_74 rfl ?_
  refine z_getR dX6_note_75 zg_X6_24 zs_36 rfl ?_
  refine z_iconst (v := (5 : Int32)) dX6_note_78 rfl ?_
  refine z_aload_n dX6_note_79 rfl ?_
  refine z_getI dX6_note_80 zg_X6_170 (zsC_0 hc) rfl ?_
  refine z_iast dX6_note_83 zs_41 (by unfold vp_in; decide) ?_
  generalize hhM21 : zup M19 41 ((5 : Int32)).toNatClampNeg (M19.1 c 11) = M21
  have h22 := h20 M21 hhM21.symm
  refine z_aload_n dX6_note_84 rfl ?_
  refine z_getR dX6_note_85 zg_X6_24 zs_36 rfl ?_
  refine z_bipush (v := (6 : Int32)) dX6_note_88 rfl ?_
  refine z_iload_n dX6_note_90 rfl ?_
  refine z_iast dX6_note_91 zs_41 (by unfold vp_in; decide) ?_
  generalize hhM23 : zup M21 41 ((6 : Int32)).toNatClampNeg x3 = M23
  have h24 := h22 M23 hhM23.symm
  refine z_aload_n dX6_note_92 rfl ?_
  refine z_getR dX6_note_93 zg_X6_24 zs_36 rfl ?_
  refine z_bipush (v := (7 : Int32)) dX6_note_96 rfl ?_
  refine z_iload dX6_note_98 rfl ?_
  refine z_iast dX6_note_100 zs_41 (by unfold vp_in; decide) ?_
  generalize hhM25 : zup M23 41 ((7 : Int32)).toNatClampNeg (M.1 (c + 6) (x2).toNatClampNeg) = M25
  have h26 := h24 M25 hhM25.symm
  refine z_aload_n dX6_note_101 rfl ?_
  refine z_getR dX6_note_102 zg_X6_24 zs_36 rfl ?_
  refine z_bipush (v := (8 : Int32)) dX6_note_105 rfl ?_
  refine z_iload_n dX6_note_107 rfl ?_
  refine z_if_le (tgt := 115) dX6_note_108 (by decide) (fun g27 => ?_) (fun g27 => ?_)
  · have h28 := h26.1 g27
    refine z_iconst (v := (0 : Int32)) dX6_note_115 rfl ?_
    refine z_weak [true, false, true, false, true, true] (ls' := [.ref 36, zU, .int x2, zU, .ref (c + 1), .int (M.1 (c + 6) (x2).toNatClampNeg)]) rfl rfl ?_
    exact h28
  · have h29 := h26.2 g27
    refine z_iconst (v := (1 : Int32)) dX6_note_111 rfl ?_
    refine z_goto (tgt := 116) dX6_note_112 (by decide) ?_
    refine z_weak [true, false, true, false, true, true] (ls' := [.ref 36, zU, .int x2, zU, .ref (c + 1), .int (M.1 (c + 6) (x2).toNatClampNeg)]) rfl rfl ?_
    exact h29
theorem t_X6_note_116 {E : zEv} {D : Nat} {post : zM → Prop} {px : String → zM → Prop} {M : zM} {c : Nat} (hc : zIsC c) {y2 : Int32} {y5 : Int32} {s0 : Int32} {s1 : Int32} (h : vp_in s1 11 ∧ ∀ M3 : zM, M3 = zup M 41 (s1).toNatClampNeg s0 → vp_in y2 5 ∧ (((M3.1 (c + 5) (y2).toNatClampNeg) < (50 : Int32) → w_X6_note_140 E D post px c y5 (0 : Int32) (9 : Int32) M3) ∧ (¬ (M3.1 (c + 5) (y2).toNatClampNeg) < (50 : Int32) → w_X6_note_140 E D post px c y5 (1 : Int32) (9 : Int32) M3))) : w_X6_note_116 E D post px c y2 y5 s0 s1 M := by
  show Z E jX6_note D 0 (zQv post px) 116 0 [.ref 36, zU, .int y2, zU, .ref (c + 1), .int y5] [.int s0, .int s1, .ref 41] M
  obtain ⟨g2, h1⟩ := h
  refine z_iast dX6_note_116 zs_41 g2 ?_
  generalize hhM3 : zup M 41 (s1).toNatClampNeg s0 = M3
  have h4 := h1 M3 hhM3.symm
  refine z_aload_n dX6_note_117 rfl ?_
  refine z_getR dX6_note_118 zg_X6_24 zs_36 rfl ?_
  refine z_bipush (v := (9 : Int32)) dX6_note_121 rfl ?_
  refine z_aload dX6_note_123 rfl ?_
  refine z_getR dX6_note_125 zg_X6_168 (zsC_1 hc) rfl ?_
  refine z_iload_n dX6_note_128 rfl ?_
  obtain ⟨g6, h5⟩ := h4
  refine z_iald dX6_note_129 (zsC_5 hc) g6 ?_
  refine z_bipush (v := (50 : Int32)) dX6_note_130 rfl ?_
  refine z_icmp_lt (tgt := 139) dX6_note_132 (by decide) (fun g7 => ?_) (fun g7 => ?_)
  · have h8 := h5.1 g7
    refine z_iconst (v := (0 : Int32)) dX6_note_139 rfl ?_
    refine z_weak [true, false, false, false, true, true] (ls' := [.ref 36, zU, zU, zU, .ref (c + 1), .int y5]) rfl rfl ?_
    exact h8
  · have h9 := h5.2 g7
    refine z_iconst (v := (1 : Int32)) dX6_note_135 rfl ?_
    refine z_goto (tgt := 140) dX6_note_136 (by decide) ?_
    refine z_weak [true, false, false, false, true, true] (ls' := [.ref 36, zU, zU, zU, .ref (c + 1), .int y5]) rfl rfl ?_
    exact h9
theorem t_X6_note_140 {E : zEv} {D : Nat} {post : zM → Prop} {px : String → zM → Prop} {M : zM} {c : Nat} (hc : zIsC c) {y5 : Int32} {s0 : Int32} {s1 : Int32} (h : vp_in s1 11 ∧ ∀ M3 : zM, M3 = zup M 41 (s1).toNatClampNeg s0 → ((y5 = 0 → w_X6_note_164 E D post px c (10 : Int32) M3) ∧ (¬ y5 = 0 → ((¬ y5 = ((M3.1 (c + 1) 6) - (1 : Int32)) → w_X6_note_169 E D post px c (0 : Int32) (10 : Int32) M3) ∧ (y5 = ((M3.1 (c + 1) 6) - (1 : Int32)) → w_X6_note_164 E D post px c (10 : Int32) M3))))) : w_X6_note_140 E D post px c y5 s0 s1 M := by
  show Z E jX6_note D 0 (zQv post px) 140 0 [.ref 36, zU, zU, zU, .ref (c + 1), .int y5] [.int s0, .int s1, .ref 41] M
  obtain ⟨g2, h1⟩ := h
  refine z_iast dX6_note_140 zs_41 g2 ?_
  generalize hhM3 : zup M 41 (s1).toNatClampNeg s0 = M3
  have h4 := h1 M3 hhM3.symm
  refine z_aload_n dX6_note_141 rfl ?_
  refine z_getR dX6_note_142 zg_X6_24 zs_36 rfl ?_
  refine z_bipush (v := (10 : Int32)) dX6_note_145 rfl ?_
  refine z_iload dX6_note_147 rfl ?_
  refine z_if_eq (tgt := 164) dX6_note_149 (by decide) (fun g5 => ?_) (fun g5 => ?_)
  · have h6 := h4.1 g5
    refine z_weak [false, false, false, false, false, false] (ls' := [zU, zU, zU, zU, zU, zU]) rfl rfl ?_
    exact h6
  · have h7 := h4.2 g5
    refine z_iload dX6_note_152 rfl ?_
    refine z_aload dX6_note_154 rfl ?_
    refine z_getI dX6_note_156 zg_X6_172 (zsC_1 hc) rfl ?_
    refine z_iconst (v := (1 : Int32)) dX6_note_159 rfl ?_
    refine z_isub dX6_note_160 ?_
    refine z_icmp_ne (tgt := 168) dX6_note_161 (by decide) (fun g8 => ?_) (fun g8 => ?_)
    · have h9 := h7.1 g8
      refine z_iconst (v := (0 : Int32)) dX6_note_168 rfl ?_
      refine z_weak [false, false, false, false, false, false] (ls' := [zU, zU, zU, zU, zU, zU]) rfl rfl ?_
      exact h9
    · have h10 := h7.2 g8
      refine z_weak [false, false, false, false, false, false] (ls' := [zU, zU, zU, zU, zU, zU]) rfl rfl ?_
      exact h10
theorem t_X6_note_164 {E : zEv} {D : Nat} {post : zM → Prop} {px : String → zM → Prop} {M : zM} {c : Nat} (hc : zIsC c) {s0 : Int32} (h : w_X6_note_169 E D post px c (1 : Int32) s0 M) : w_X6_note_164 E D post px c s0 M := by
  show Z E jX6_note D 0 (zQv post px) 164 0 [zU, zU, zU, zU, zU, zU] [.int s0, .ref 41] M
  refine z_iconst (v := (1 : Int32)) dX6_note_164 rfl ?_
  refine z_goto (tgt := 169) dX6_note_165 (by decide) ?_
  exact h
theorem t_X6_note_169 {E : zEv} {D : Nat} {post : zM → Prop} {px : String → zM → Prop} {M : zM} {c : Nat} (hc : zIsC c) {s0 : Int32} {s1 : Int32} (h : vp_in s1 11 ∧ ∀ M3 : zM, M3 = zup M 41 (s1).toNatClampNeg s0 → post M3) : w_X6_note_169 E D post px c s0 s1 M := by
  show Z E jX6_note D 0 (zQv post px) 169 0 [zU, zU, zU, zU, zU, zU] [.int s0, .int s1, .ref 41] M
  obtain ⟨g2, h1⟩ := h
  refine z_iast dX6_note_169 zs_41 g2 ?_
  generalize hhM3 : zup M 41 (s1).toNatClampNeg s0 = M3
  have h4 := h1 M3 hhM3.symm
  exact z_vret dX6_note_170 rfl (by decide) h4
def w_X6_holds_16 (E : zEv) (D : Nat) (post : Int32 → zM → Prop) (px : String → zM → Prop)  (y1 : Int32) (s0 : Int32) (M : zM) : Prop := Z E jX6_holds D 0 (zQi post px) 16 0 [.ref 36, .int y1, zU, zU, zU, zU, zU, zU] [.int s0] M
def w_X6_holds_22 (E : zEv) (D : Nat) (post : Int32 → zM → Prop) (px : String → zM → Prop)  (y1 : Int32) (y3 : Int32) (y4 : Int32) (M : zM) : Prop := Z E jX6_holds D 0 (zQi post px) 22 0 [.ref 36, .int y1, zU, .int y3, .int y4, zU, zU, zU] [] M
def w_X6_holds_306 (E : zEv) (D : Nat) (post : Int32 → zM → Prop) (px : String → zM → Prop)   (M : zM) : Prop := Z E jX6_holds D 0 (zQi post px) 306 0 [zU, zU, zU, zU, zU, zU, zU, zU] [] M
def w_X6_holds_311 (E : zEv) (D : Nat) (post : Int32 → zM → Prop) (px : String → zM → Prop)  (s0 : Int32) (M : zM) : Prop := Z E jX6_holds D 0 (zQi post px) 311 0 [zU, zU, zU, zU, zU, zU, zU, zU] [.int s0] M
def w_X6_holds_287 (E : zEv) (D : Nat) (post : Int32 → zM → Prop) (px : String → zM → Prop)  (y1 : Int32) (y3 : Int32) (y4 : Int32) (M : zM) : Prop := Z E jX6_holds D 0 (zQi post px) 287 0 [.ref 36, .int y1, zU, .int y3, .int y4, zU, zU, zU] [] M
def w_X6_holds_254 (E : zEv) (D : Nat) (post : Int32 → zM → Prop) (px : String → zM → Prop)  (y1 : Int32) (y3 : Int32) (y4 : Int32) (s0 : Int32) (s1 : Int32) (M : zM) : Prop := Z E jX6_holds D 0 (zQi post px) 254 0 [.ref 36, .int y1, zU, .int y3, .int y4, zU, zU, zU] [.int s0, .int s1, .ref 42] M
def w_X6_holds_231 (E : zEv) (D : Nat) (post : Int32 → zM → Prop) (px : String → zM → Prop)  (y1 : Int32) (y3 : Int32) (y4 : Int32) (s0 : Int32) (s1 : Int32) (M : zM) : Prop := Z E jX6_holds D 0 (zQi post px) 231 0 [.ref 36, .int y1, zU, .int y3, .int y4, zU, zU, zU] [.int s0, .int s1, .ref 42] M
def w_X6_holds_67 (E : zEv) (D : Nat) (post : Int32 → zM → Prop) (px : String → zM → Prop)   (M : zM) : Prop := Z E jX6_holds D 0 (zQi post px) 67 0 [zU, zU, zU, zU, zU, zU, zU, zU] [] M
def w_X6_holds_93 (E : zEv) (D : Nat) (post : Int32 → zM → Prop) (px : String → zM → Prop)  (y1 : Int32) (y3 : Int32) (y4 : Int32) (s0 : Int32) (s1 : Int32) (M : zM) : Prop := Z E jX6_holds D 0 (zQi post px) 93 0 [.ref 36, .int y1, zU, .int y3, .int y4, zU, zU, zU] [.int s0, .int s1, .ref 42] M
theorem e_X6_holds {E : zEv} {D : Nat} {post : Int32 → zM → Prop} {px : String → zM → Prop} {M : zM} {x1 : Int32}  (h : ((¬ x1 = 0 → vp_in (x1 - (1 : Int32)) 12 ∧ w_X6_holds_16 E D post px x1 (M.1 39 ((x1 - (1 : Int32))).toNatClampNeg) M) ∧ (x1 = 0 → w_X6_holds_16 E D post px x1 (0 : Int32) M))) : zCi E jX6_holds D 0 [.ref 36, .int x1] M post px := by
  refine z_meth (by decide) (Nat.le_of_ble_eq_true rfl) ?_
  show Z E jX6_holds D 0 (zQi post px) 0 0 [.ref 36, .int x1, zU, zU, zU, zU, zU, zU] [] M
  refine z_iload_n dX6_holds_0 rfl ?_
  refine z_if_ne (tgt := 8) dX6_holds_1 (by decide) (fun g1 => ?_) (fun g1 => ?_)
  · have h2 := h.1 g1
    refine z_aload_n dX6_holds_8 rfl ?_
    refine z_getR dX6_holds_9 zg_X6_18 zs_36 rfl ?_
    refine z_iload_n dX6_holds_12 rfl ?_
    refine z_iconst (v := (1 : Int32)) dX6_holds_13 rfl ?_
    refine z_isub dX6_holds_14 ?_
    obtain ⟨g5, h4⟩ := h2
    refine z_iald dX6_holds_15 zs_39 g5 ?_
    exact h4
  · have h3 := h.2 g1
    refine z_iconst (v := (0 : Int32)) dX6_holds_4 rfl ?_
    refine z_goto (tgt := 16) dX6_holds_5 (by decide) ?_
    exact h3
theorem t_X6_holds_16 {E : zEv} {D : Nat} {post : Int32 → zM → Prop} {px : String → zM → Prop} {M : zM}   {y1 : Int32} {s0 : Int32} (h : w_X6_holds_22 E D post px y1 (0 : Int32) s0 M) : w_X6_holds_16 E D post px y1 s0 M := by
  show Z E jX6_holds D 0 (zQi post px) 16 0 [.ref 36, .int y1, zU, zU, zU, zU, zU, zU] [.int s0] M
  refine z_istore_n dX6_holds_16 (by decide) (ls' := [.ref 36, .int y1, .int s0, zU, zU, zU, zU, zU]) rfl ?_
  refine z_iconst (v := (0 : Int32)) dX6_holds_17 rfl ?_
  refine z_istore_n dX6_holds_18 (by decide) (ls' := [.ref 36, .int y1, .int s0, .int (0 : Int32), zU, zU, zU, zU]) rfl ?_
  refine z_iload_n dX6_holds_19 rfl ?_
  refine z_istore dX6_holds_20 (by decide) (ls' := [.ref 36, .int y1, .int s0, .int (0 : Int32), .int s0, zU, zU, zU]) rfl ?_
  refine z_weak [true, true, false, true, true, false, false, false] (ls' := [.ref 36, .int y1, zU, .int (0 : Int32), .int s0, zU, zU, zU]) rfl rfl ?_
  exact h
theorem t_X6_holds_22 {E : zEv} {D : Nat} {post : Int32 → zM → Prop} {px : String → zM → Prop} {M : zM}   {y1 : Int32} {y3 : Int32} {y4 : Int32} (h : vp_in y1 12 ∧ (((M.1 39 (y1).toNatClampNeg) ≤ y4 → ((y3 = 0 → w_X6_holds_306 E D post px  M) ∧ (¬ y3 = 0 → (((M.1 42 ((0 : Int32)).toNatClampNeg) = 0 → w_X6_holds_311 E D post px (0 : Int32) M) ∧ (¬ (M.1 42 ((0 : Int32)).toNatClampNeg) = 0 → w_X6_holds_306 E D post px  M))))) ∧ (¬ (M.1 39 (y1).toNatClampNeg) ≤ y4 → vp_in y4 400 ∧ (((M.1 40 (y4).toNatClampNeg) ≤ (-20 : Int32) → ((¬ (M.1 40 (y4).toNatClampNeg) = (-20 : Int32) → (((2 : Int32) ≤ y3 → vp_in ((y3 + (-1 : Int32)) - (1 : Int32)) 30 ∧ vp_in (y3 + (-1 : Int32)) 30 ∧ (((M.1 40 (y4).toNatClampNeg) = (-24 : Int32) → vp_in ((y3 + (-1 : Int32)) - (1 : Int32)) 30 ∧ ∀ M31 : zM, M31 = zup M 42 (((y3 + (-1 : Int32)) - (1 : Int32))).toNatClampNeg ((M.1 42 (((y3 + (-1 : Int32)) - (1 : Int32))).toNatClampNeg) &&& (M.1 42 ((y3 + (-1 : Int32))).toNatClampNeg)) → w_X6_holds_287 E D post px y1 (y3 + (-1 : Int32)) y4 M31) ∧ (¬ (M.1 40 (y4).toNatClampNeg) = (-24 : Int32) → (((M.1 40 (y4).toNatClampNeg) = (-23 : Int32) → (((M.1 42 (((y3 + (-1 : Int32)) - (1 : Int32))).toNatClampNeg) ≤ (M.1 42 ((y3 + (-1 : Int32))).toNatClampNeg) → w_X6_holds_254 E D post px y1 (y3 + (-1 : Int32)) y4 (0 : Int32) ((y3 + (-1 : Int32)) - (1 : Int32)) M) ∧ (¬ (M.1 42 (((y3 + (-1 : Int32)) - (1 : Int32))).toNatClampNeg) ≤ (M.1 42 ((y3 + (-1 : Int32))).toNatClampNeg) → w_X6_holds_254 E D post px y1 (y3 + (-1 : Int32)) y4 (1 : Int32) ((y3 + (-1 : Int32)) - (1 : Int32)) M))) ∧ (¬ (M.1 40 (y4).toNatClampNeg) = (-23 : Int32) → (((M.1 40 (y4).toNatClampNeg) = (-22 : Int32) → (((M.1 42 ((y3 + (-1 : Int32))).toNatClampNeg) ≤ (M.1 42 (((y3 + (-1 : Int32)) - (1 : Int32))).toNatClampNeg) → w_X6_holds_231 E D post px y1 (y3 + (-1 : Int32)) y4 (0 : Int32) ((y3 + (-1 : Int32)) - (1 : Int32)) M) ∧ (¬ (M.1 42 ((y3 + (-1 : Int32))).toNatClampNeg) ≤ (M.1 42 (((y3 + (-1 : Int32)) - (1 : Int32))).toNatClampNeg) → w_X6_holds_231 E D post px y1 (y3 + (-1 : Int32)) y4 (1 : Int32) ((y3 + (-1 : Int32)) - (1 : Int32)) M))) ∧ (¬ (M.1 40 (y4).toNatClampNeg) = (-22 : Int32) → (((M.1 40 (y4).toNatClampNeg) = (-21 : Int32) → vp_in ((y3 + (-1 : Int32)) - (1 : Int32)) 30 ∧ ∀ M50 : zM, M50 = zup M 42 (((y3 + (-1 : Int32)) - (1 : Int32))).toNatClampNeg ((M.1 42 (((y3 + (-1 : Int32)) - (1 : Int32))).toNatClampNeg) + (M.1 42 ((y3 + (-1 : Int32))).toNatClampNeg)) → w_X6_holds_287 E D post px y1 (y3 + (-1 : Int32)) y4 M50) ∧ (¬ (M.1 40 (y4).toNatClampNeg) = (-21 : Int32) → vp_in ((y3 + (-1 : Int32)) - (1 : Int32)) 30 ∧ ∀ M55 : zM, M55 = zup M 42 (((y3 + (-1 : Int32)) - (1 : Int32))).toNatClampNeg ((M.1 42 (((y3 + (-1 : Int32)) - (1 : Int32))).toNatClampNeg) ||| (M.1 42 ((y3 + (-1 : Int32))).toNatClampNeg)) → w_X6_holds_287 E D post px y1 (y3 + (-1 : Int32)) y4 M55))))))))) ∧ (¬ (2 : Int32) ≤ y3 → post (0 : Int32) M))) ∧ ((M.1 40 (y4).toNatClampNeg) = (-20 : Int32) → (((1 : Int32) ≤ y3 → vp_in (y3 - (1 : Int32)) 30 ∧ vp_in (y3 - (1 : Int32)) 30 ∧ ∀ M64 : zM, M64 = zup M 42 ((y3 - (1 : Int32))).toNatClampNeg ((1 : Int32) - (M.1 42 ((y3 - (1 : Int32))).toNatClampNeg)) → w_X6_holds_287 E D post px y1 y3 y4 M64) ∧ (¬ (1 : Int32) ≤ y3 → post (0 : Int32) M))))) ∧ (¬ (M.1 40 (y4).toNatClampNeg) ≤ (-20 : Int32) → (((30 : Int32) ≤ y3 → w_X6_holds_67 E D post px  M) ∧ (¬ (30 : Int32) ≤ y3 → ((((-1 : Int32) - (M.1 40 (y4).toNatClampNeg)) < (11 : Int32) → (((M.1 40 (y4).toNatClampNeg) < 0 → vp_in ((-1 : Int32) - (M.1 40 (y4).toNatClampNeg)) 11 ∧ w_X6_holds_93 E D post px y1 y3 y4 (M.1 41 (((-1 : Int32) - (M.1 40 (y4).toNatClampNeg))).toNatClampNeg) y3 M) ∧ (¬ (M.1 40 (y4).toNatClampNeg) < 0 → w_X6_holds_93 E D post px y1 y3 y4 (M.1 40 (y4).toNatClampNeg) y3 M))) ∧ (¬ ((-1 : Int32) - (M.1 40 (y4).toNatClampNeg)) < (11 : Int32) → w_X6_holds_67 E D post px  M))))))))) : w_X6_holds_22 E D post px y1 y3 y4 M := by
  show Z E jX6_holds D 0 (zQi post px) 22 0 [.ref 36, .int y1, zU, .int y3, .int y4, zU, zU, zU] [] M
  refine z_iload dX6_holds_22 rfl ?_
  refine z_aload_n dX6_holds_24 rfl ?_
  refine z_getR dX6_holds_25 zg_X6_18 zs_36 rfl ?_
  refine z_iload_n dX6_holds_28 rfl ?_
  obtain ⟨g2, h1⟩ := h
  refine z_iald dX6_holds_29 zs_39 g2 ?_
  refine z_icmp_ge (tgt := 293) dX6_holds_30 (by decide) (fun g3 => ?_) (fun g3 => ?_)
  · have h4 := h1.1 g3
    refine z_iload_n dX6_holds_293 rfl ?_
    refine z_if_eq (tgt := 306) dX6_holds_294 (by decide) (fun g6 => ?_) (fun g6 => ?_)
    · have h7 := h4.1 g6
      refine z_weak [false, false, false, false, false, false, false, false] (ls' := [zU, zU, zU, zU, zU, zU, zU, zU]) rfl rfl ?_
      exact h7
    · have h8 := h4.2 g6
      refine z_aload_n dX6_holds_297 rfl ?_
      refine z_getR dX6_holds_298 zg_X6_27 zs_36 rfl ?_
      refine z_iconst (v := (0 : Int32)) dX6_holds_301 rfl ?_
      refine z_iald dX6_holds_302 zs_42 (by unfold vp_in; decide) ?_
      refine z_if_eq (tgt := 310) dX6_holds_303 (by decide) (fun g9 => ?_) (fun g9 => ?_)
      · have h10 := h8.1 g9
        refine z_iconst (v := (0 : Int32)) dX6_holds_310 rfl ?_
        refine z_weak [false, false, false, false, false, false, false, false] (ls' := [zU, zU, zU, zU, zU, zU, zU, zU]) rfl rfl ?_
        exact h10
      · have h11 := h8.2 g9
        refine z_weak [false, false, false, false, false, false, false, false] (ls' := [zU, zU, zU, zU, zU, zU, zU, zU]) rfl rfl ?_
        exact h11
  · have h5 := h1.2 g3
    refine z_aload_n dX6_holds_33 rfl ?_
    refine z_getR dX6_holds_34 zg_X6_21 zs_36 rfl ?_
    refine z_iload dX6_holds_37 rfl ?_
    obtain ⟨g13, h12⟩ := h5
    refine z_iald dX6_holds_39 zs_40 g13 ?_
    refine z_istore dX6_holds_40 (by decide) (ls' := [.ref 36, .int y1, zU, .int y3, .int y4, .int (M.1 40 (y4).toNatClampNeg), zU, zU]) rfl ?_
    refine z_iload dX6_holds_42 rfl ?_
    refine z_bipush (v := (-20 : Int32)) dX6_holds_44 rfl ?_
    refine z_icmp_le (tgt := 100) dX6_holds_46 (by decide) (fun g14 => ?_) (fun g14 => ?_)
    · have h15 := h12.1 g14
      refine z_iload dX6_holds_100 rfl ?_
      refine z_bipush (v := (-20 : Int32)) dX6_holds_102 rfl ?_
      refine z_icmp_ne (tgt := 135) dX6_holds_104 (by decide) (fun g17 => ?_) (fun g17 => ?_)
      · have h18 := h15.1 g17
        refine z_iload_n dX6_holds_135 rfl ?_
        refine z_iconst (v := (2 : Int32)) dX6_holds_136 rfl ?_
        refine z_icmp_ge (tgt := 142) dX6_holds_137 (by decide) (fun g20 => ?_) (fun g20 => ?_)
        · have h21 := h18.1 g20
          refine z_iinc dX6_holds_142 rfl (by decide) (ls' := [.ref 36, .int y1, zU, .int (y3 + (-1 : Int32)), .int y4, .int (M.1 40 (y4).toNatClampNeg), zU, zU]) rfl ?_
          refine z_aload_n dX6_holds_145 rfl ?_
          refine z_getR dX6_holds_146 zg_X6_27 zs_36 rfl ?_
          refine z_iload_n dX6_holds_149 rfl ?_
          refine z_iconst (v := (1 : Int32)) dX6_holds_150 rfl ?_
          refine z_isub dX6_holds_151 ?_
          obtain ⟨g24, h23⟩ := h21
          refine z_iald dX6_holds_152 zs_42 g24 ?_
          refine z_istore dX6_holds_153 (by decide) (ls' := [.ref 36, .int y1, zU, .int (y3 + (-1 : Int32)), .int y4, .int (M.1 40 (y4).toNatClampNeg), .int (M.1 42 (((y3 + (-1 : Int32)) - (1 : Int32))).toNatClampNeg), zU]) rfl ?_
          refine z_aload_n dX6_holds_155 rfl ?_
          refine z_getR dX6_holds_156 zg_X6_27 zs_36 rfl ?_
          refine z_iload_n dX6_holds_159 rfl ?_
          obtain ⟨g26, h25⟩ := h23
          refine z_iald dX6_holds_160 zs_42 g26 ?_
          refine z_istore dX6_holds_161 (by decide) (ls' := [.ref 36, .int y1, zU, .int (y3 + (-1 : Int32)), .int y4, .int (M.1 40 (y4).toNatClampNeg), .int (M.1 42 (((y3 + (-1 : Int32)) - (1 : Int32))).toNatClampNeg), .int (M.1 42 ((y3 + (-1 : Int32))).toNatClampNeg)]) rfl ?_
          refine z_iload dX6_holds_163 rfl ?_
          by_cases g27 : (M.1 40 (y4).toNatClampNeg) = (-24 : Int32)
          · have h28 := h25.1 g27
            refine z_tableIn (tgt := 258) dX6_holds_165 (by rw [g27]; decide) (by rw [g27]; decide) (by rw [g27]; rfl) (by decide) ?_
            refine z_aload_n dX6_holds_258 rfl ?_
            refine z_getR dX6_holds_259 zg_X6_27 zs_36 rfl ?_
            refine z_iload_n dX6_holds_262 rfl ?_
            refine z_iconst (v := (1 : Int32)) dX6_holds_263 rfl ?_
            refine z_isub dX6_holds_264 ?_
            refine z_iload dX6_holds_265 rfl ?_
            refine z_iload dX6_holds_267 rfl ?_
            refine z_iand dX6_holds_269 ?_
            obtain ⟨g30, h29⟩ := h28
            refine z_iast dX6_holds_270 zs_42 g30 ?_
            generalize hhM31 : zup M 42 (((y3 + (-1 : Int32)) - (1 : Int32))).toNatClampNeg ((M.1 42 (((y3 + (-1 : Int32)) - (1 : Int32))).toNatClampNeg) &&& (M.1 42 ((y3 + (-1 : Int32))).toNatClampNeg)) = M31
            have h32 := h29 M31 hhM31.symm
            refine z_goto (tgt := 287) dX6_holds_271 (by decide) ?_
            refine z_weak [true, true, false, true, true, false, false, false] (ls' := [.ref 36, .int y1, zU, .int (y3 + (-1 : Int32)), .int y4, zU, zU, zU]) rfl rfl ?_
            exact h32
          have h33 := h25.2 g27
          by_cases g34 : (M.1 40 (y4).toNatClampNeg) = (-23 : Int32)
          · have h35 := h33.1 g34
            refine z_tableIn (tgt := 235) dX6_holds_165 (by rw [g34]; decide) (by rw [g34]; decide) (by rw [g34]; rfl) (by decide) ?_
            refine z_aload_n dX6_holds_235 rfl ?_
            refine z_getR dX6_holds_236 zg_X6_27 zs_36 rfl ?_
            refine z_iload_n dX6_holds_239 rfl ?_
            refine z_iconst (v := (1 : Int32)) dX6_holds_240 rfl ?_
            refine z_isub dX6_holds_241 ?_
            refine z_iload dX6_holds_242 rfl ?_
            refine z_iload dX6_holds_244 rfl ?_
            refine z_icmp_le (tgt := 253) dX6_holds_246 (by decide) (fun g36 => ?_) (fun g36 => ?_)
            · have h37 := h35.1 g36
              refine z_iconst (v := (0 : Int32)) dX6_holds_253 rfl ?_
              refine z_weak [true, true, false, true, true, false, false, false] (ls' := [.ref 36, .int y1, zU, .int (y3 + (-1 : Int32)), .int y4, zU, zU, zU]) rfl rfl ?_
              exact h37
            · have h38 := h35.2 g36
              refine z_iconst (v := (1 : Int32)) dX6_holds_249 rfl ?_
              refine z_goto (tgt := 254) dX6_holds_250 (by decide) ?_
              refine z_weak [true, true, false, true, true, false, false, false] (ls' := [.ref 36, .int y1, zU, .int (y3 + (-1 : Int32)), .int y4, zU, zU, zU]) rfl rfl ?_
              exact h38
          have h39 := h33.2 g34
          by_cases g40 : (M.1 40 (y4).toNatClampNeg) = (-22 : Int32)
          · have h41 := h39.1 g40
            refine z_tableIn (tgt := 212) dX6_holds_165 (by rw [g40]; decide) (by rw [g40]; decide) (by rw [g40]; rfl) (by decide) ?_
            refine z_aload_n dX6_holds_212 rfl ?_
            refine z_getR dX6_holds_213 zg_X6_27 zs_36 rfl ?_
            refine z_iload_n dX6_holds_216 rfl ?_
            refine z_iconst (v := (1 : Int32)) dX6_holds_217 rfl ?_
            refine z_isub dX6_holds_218 ?_
            refine z_iload dX6_holds_219 rfl ?_
            refine z_iload dX6_holds_221 rfl ?_
            refine z_icmp_ge (tgt := 230) dX6_holds_223 (by decide) (fun g42 => ?_) (fun g42 => ?_)
            · have h43 := h41.1 g42
              refine z_iconst (v := (0 : Int32)) dX6_holds_230 rfl ?_
              refine z_weak [true, true, false, true, true, false, false, false] (ls' := [.ref 36, .int y1, zU, .int (y3 + (-1 : Int32)), .int y4, zU, zU, zU]) rfl rfl ?_
              exact h43
            · have h44 := h41.2 g42
              refine z_iconst (v := (1 : Int32)) dX6_holds_226 rfl ?_
              refine z_goto (tgt := 231) dX6_holds_227 (by decide) ?_
              refine z_weak [true, true, false, true, true, false, false, false] (ls' := [.ref 36, .int y1, zU, .int (y3 + (-1 : Int32)), .int y4, zU, zU, zU]) rfl rfl ?_
              exact h44
          have h45 := h39.2 g40
          by_cases g46 : (M.1 40 (y4).toNatClampNeg) = (-21 : Int32)
          · have h47 := h45.1 g46
            refine z_tableIn (tgt := 196) dX6_holds_165 (by rw [g46]; decide) (by rw [g46]; decide) (by rw [g46]; rfl) (by decide) ?_
            refine z_aload_n dX6_holds_196 rfl ?_
            refine z_getR dX6_holds_197 zg_X6_27 zs_36 rfl ?_
            refine z_iload_n dX6_holds_200 rfl ?_
            refine z_iconst (v := (1 : Int32)) dX6_holds_201 rfl ?_
            refine z_isub dX6_holds_202 ?_
            refine z_iload dX6_holds_203 rfl ?_
            refine z_iload dX6_holds_205 rfl ?_
            refine z_iadd dX6_holds_207 ?_
            obtain ⟨g49, h48⟩ := h47
            refine z_iast dX6_holds_208 zs_42 g49 ?_
            generalize hhM50 : zup M 42 (((y3 + (-1 : Int32)) - (1 : Int32))).toNatClampNeg ((M.1 42 (((y3 + (-1 : Int32)) - (1 : Int32))).toNatClampNeg) + (M.1 42 ((y3 + (-1 : Int32))).toNatClampNeg)) = M50
            have h51 := h48 M50 hhM50.symm
            refine z_goto (tgt := 287) dX6_holds_209 (by decide) ?_
            refine z_weak [true, true, false, true, true, false, false, false] (ls' := [.ref 36, .int y1, zU, .int (y3 + (-1 : Int32)), .int y4, zU, zU, zU]) rfl rfl ?_
            exact h51
          have h52 := h45.2 g46
          refine z_tableOut (tgt := 274) dX6_holds_165 (by have := zne_toInt g27 (by decide : ((-24 : Int32)).toInt = -24); have := zne_toInt g34 (by decide : ((-23 : Int32)).toInt = -23); have := zne_toInt g40 (by decide : ((-22 : Int32)).toInt = -22); have := zne_toInt g46 (by decide : ((-21 : Int32)).toInt = -21); omega) (by decide) ?_
          refine z_aload_n dX6_holds_274 rfl ?_
          refine z_getR dX6_holds_275 zg_X6_27 zs_36 rfl ?_
          refine z_iload_n dX6_holds_278 rfl ?_
          refine z_iconst (v := (1 : Int32)) dX6_holds_279 rfl ?_
          refine z_isub dX6_holds_280 ?_
          refine z_iload dX6_holds_281 rfl ?_
          refine z_iload dX6_holds_283 rfl ?_
          refine z_ior dX6_holds_285 ?_
          obtain ⟨g54, h53⟩ := h52
          refine z_iast dX6_holds_286 zs_42 g54 ?_
          generalize hhM55 : zup M 42 (((y3 + (-1 : Int32)) - (1 : Int32))).toNatClampNeg ((M.1 42 (((y3 + (-1 : Int32)) - (1 : Int32))).toNatClampNeg) ||| (M.1 42 ((y3 + (-1 : Int32))).toNatClampNeg)) = M55
          have h56 := h53 M55 hhM55.symm
          refine z_weak [true, true, false, true, true, false, false, false] (ls' := [.ref 36, .int y1, zU, .int (y3 + (-1 : Int32)), .int y4, zU, zU, zU]) rfl rfl ?_
          exact h56
        · have h22 := h18.2 g20
          refine z_iconst (v := (0 : Int32)) dX6_holds_140 rfl ?_
          exact z_iret dX6_holds_141 rfl (by decide) (by decide) h22
      · have h19 := h15.2 g17
        refine z_iload_n dX6_holds_107 rfl ?_
        refine z_iconst (v := (1 : Int32)) dX6_holds_108 rfl ?_
        refine z_icmp_ge (tgt := 114) dX6_holds_109 (by decide) (fun g57 => ?_) (fun g57 => ?_)
        · have h58 := h19.1 g57
          refine z_aload_n dX6_holds_114 rfl ?_
          refine z_getR dX6_holds_115 zg_X6_27 zs_36 rfl ?_
          refine z_iload_n dX6_holds_118 rfl ?_
          refine z_iconst (v := (1 : Int32)) dX6_holds_119 rfl ?_
          refine z_isub dX6_holds_120 ?_
          refine z_iconst (v := (1 : Int32)) dX6_holds_121 rfl ?_
          refine z_aload_n dX6_holds_122 rfl ?_
          refine z_getR dX6_holds_123 zg_X6_27 zs_36 rfl ?_
          refine z_iload_n dX6_holds_126 rfl ?_
          refine z_iconst (v := (1 : Int32)) dX6_holds_127 rfl ?_
          refine z_isub dX6_holds_128 ?_
          obtain ⟨g61, h60⟩ := h58
          refine z_iald dX6_holds_129 zs_42 g61 ?_
          refine z_isub dX6_holds_130 ?_
          obtain ⟨g63, h62⟩ := h60
          refine z_iast dX6_holds_131 zs_42 g63 ?_
          generalize hhM64 : zup M 42 ((y3 - (1 : Int32))).toNatClampNeg ((1 : Int32) - (M.1 42 ((y3 - (1 : Int32))).toNatClampNeg)) = M64
          have h65 := h62 M64 hhM64.symm
          refine z_goto (tgt := 287) dX6_holds_132 (by decide) ?_
          refine z_weak [true, true, false, true, true, false, false, false] (ls' := [.ref 36, .int y1, zU, .int y3, .int y4, zU, zU, zU]) rfl rfl ?_
          exact h65
        · have h59 := h19.2 g57
          refine z_iconst (v := (0 : Int32)) dX6_holds_112 rfl ?_
          exact z_iret dX6_holds_113 rfl (by decide) (by decide) h59
    · have h16 := h12.2 g14
      refine z_iload_n dX6_holds_49 rfl ?_
      refine z_aload_n dX6_holds_50 rfl ?_
      refine z_getR dX6_holds_51 zg_X6_27 zs_36 rfl ?_
      refine z_alen (v := (30 : Int32)) dX6_holds_54 zs_42 rfl ?_
      refine z_icmp_ge (tgt := 67) dX6_holds_55 (by decide) (fun g66 => ?_) (fun g66 => ?_)
      · have h67 := h16.1 g66
        refine z_weak [false, false, false, false, false, false, false, false] (ls' := [zU, zU, zU, zU, zU, zU, zU, zU]) rfl rfl ?_
        exact h67
      · have h68 := h16.2 g66
        refine z_iconst (v := (-1 : Int32)) dX6_holds_58 rfl ?_
        refine z_iload dX6_holds_59 rfl ?_
        refine z_isub dX6_holds_61 ?_
        refine z_bipush (v := (11 : Int32)) dX6_holds_62 rfl ?_
        refine z_icmp_lt (tgt := 69) dX6_holds_64 (by decide) (fun g69 => ?_) (fun g69 => ?_)
        · have h70 := h68.1 g69
          refine z_aload_n dX6_holds_69 rfl ?_
          refine z_getR dX6_holds_70 zg_X6_27 zs_36 rfl ?_
          refine z_iload_n dX6_holds_73 rfl ?_
          refine z_iload dX6_holds_74 rfl ?_
          refine z_if_lt (tgt := 84) dX6_holds_76 (by decide) (fun g72 => ?_) (fun g72 => ?_)
          · have h73 := h70.1 g72
            refine z_aload_n dX6_holds_84 rfl ?_
            refine z_getR dX6_holds_85 zg_X6_24 zs_36 rfl ?_
            refine z_iconst (v := (-1 : Int32)) dX6_holds_88 rfl ?_
            refine z_iload dX6_holds_89 rfl ?_
            refine z_isub dX6_holds_91 ?_
            obtain ⟨g76, h75⟩ := h73
            refine z_iald dX6_holds_92 zs_41 g76 ?_
            refine z_weak [true, true, false, true, true, false, false, false] (ls' := [.ref 36, .int y1, zU, .int y3, .int y4, zU, zU, zU]) rfl rfl ?_
            exact h75
          · have h74 := h70.2 g72
            refine z_iload dX6_holds_79 rfl ?_
            refine z_goto (tgt := 93) dX6_holds_81 (by decide) ?_
            refine z_weak [true, true, false, true, true, false, false, false] (ls' := [.ref 36, .int y1, zU, .int y3, .int y4, zU, zU, zU]) rfl rfl ?_
            exact h74
        · have h71 := h68.2 g69
          refine z_weak [false, false, false, false, false, false, false, false] (ls' := [zU, zU, zU, zU, zU, zU, zU, zU]) rfl rfl ?_
          exact h71
theorem t_X6_holds_306 {E : zEv} {D : Nat} {post : Int32 → zM → Prop} {px : String → zM → Prop} {M : zM}    (h : w_X6_holds_311 E D post px (1 : Int32) M) : w_X6_holds_306 E D post px  M := by
  show Z E jX6_holds D 0 (zQi post px) 306 0 [zU, zU, zU, zU, zU, zU, zU, zU] [] M
  refine z_iconst (v := (1 : Int32)) dX6_holds_306 rfl ?_
  refine z_goto (tgt := 311) dX6_holds_307 (by decide) ?_
  exact h
theorem t_X6_holds_311 {E : zEv} {D : Nat} {post : Int32 → zM → Prop} {px : String → zM → Prop} {M : zM}   {s0 : Int32} (h : (s0 = 0 ∨ s0 = 1) ∧ post s0 M) : w_X6_holds_311 E D post px s0 M := by
  show Z E jX6_holds D 0 (zQi post px) 311 0 [zU, zU, zU, zU, zU, zU, zU, zU] [.int s0] M
  obtain ⟨g2, h1⟩ := h
  exact z_iret dX6_holds_311 rfl (zbool g2) (by decide) h1
theorem t_X6_holds_287 {E : zEv} {D : Nat} {post : Int32 → zM → Prop} {px : String → zM → Prop} {M : zM}   {y1 : Int32} {y3 : Int32} {y4 : Int32} (h : w_X6_holds_22 E D post px y1 y3 (y4 + (1 : Int32)) M) : w_X6_holds_287 E D post px y1 y3 y4 M := by
  show Z E jX6_holds D 0 (zQi post px) 287 0 [.ref 36, .int y1, zU, .int y3, .int y4, zU, zU, zU] [] M
  refine z_iinc dX6_holds_287 rfl (by decide) (ls' := [.ref 36, .int y1, zU, .int y3, .int (y4 + (1 : Int32)), zU, zU, zU]) rfl ?_
  refine z_goto (tgt := 22) dX6_holds_290 (by decide) ?_
  exact h
theorem t_X6_holds_254 {E : zEv} {D : Nat} {post : Int32 → zM → Prop} {px : String → zM → Prop} {M : zM}   {y1 : Int32} {y3 : Int32} {y4 : Int32} {s0 : Int32} {s1 : Int32} (h : vp_in s1 30 ∧ ∀ M3 : zM, M3 = zup M 42 (s1).toNatClampNeg s0 → w_X6_holds_287 E D post px y1 y3 y4 M3) : w_X6_holds_254 E D post px y1 y3 y4 s0 s1 M := by
  show Z E jX6_holds D 0 (zQi post px) 254 0 [.ref 36, .int y1, zU, .int y3, .int y4, zU, zU, zU] [.int s0, .int s1, .ref 42] M
  obtain ⟨g2, h1⟩ := h
  refine z_iast dX6_holds_254 zs_42 g2 ?_
  generalize hhM3 : zup M 42 (s1).toNatClampNeg s0 = M3
  have h4 := h1 M3 hhM3.symm
  refine z_goto (tgt := 287) dX6_holds_255 (by decide) ?_
  exact h4
theorem t_X6_holds_231 {E : zEv} {D : Nat} {post : Int32 → zM → Prop} {px : String → zM → Prop} {M : zM}   {y1 : Int32} {y3 : Int32} {y4 : Int32} {s0 : Int32} {s1 : Int32} (h : vp_in s1 30 ∧ ∀ M3 : zM, M3 = zup M 42 (s1).toNatClampNeg s0 → w_X6_holds_287 E D post px y1 y3 y4 M3) : w_X6_holds_231 E D post px y1 y3 y4 s0 s1 M := by
  show Z E jX6_holds D 0 (zQi post px) 231 0 [.ref 36, .int y1, zU, .int y3, .int y4, zU, zU, zU] [.int s0, .int s1, .ref 42] M
  obtain ⟨g2, h1⟩ := h
  refine z_iast dX6_holds_231 zs_42 g2 ?_
  generalize hhM3 : zup M 42 (s1).toNatClampNeg s0 = M3
  have h4 := h1 M3 hhM3.symm
  refine z_goto (tgt := 287) dX6_holds_232 (by decide) ?_
  exact h4
theorem t_X6_holds_67 {E : zEv} {D : Nat} {post : Int32 → zM → Prop} {px : String → zM → Prop} {M : zM}    (h : post (0 : Int32) M) : w_X6_holds_67 E D post px  M := by
  show Z E jX6_holds D 0 (zQi post px) 67 0 [zU, zU, zU, zU, zU, zU, zU, zU] [] M
  refine z_iconst (v := (0 : Int32)) dX6_holds_67 rfl ?_
  exact z_iret dX6_holds_68 rfl (by decide) (by decide) h
theorem t_X6_holds_93 {E : zEv} {D : Nat} {post : Int32 → zM → Prop} {px : String → zM → Prop} {M : zM}   {y1 : Int32} {y3 : Int32} {y4 : Int32} {s0 : Int32} {s1 : Int32} (h : vp_in s1 30 ∧ ∀ M3 : zM, M3 = zup M 42 (s1).toNatClampNeg s0 → w_X6_holds_287 E D post px y1 (y3 + (1 : Int32)) y4 M3) : w_X6_holds_93 E D post px y1 y3 y4 s0 s1 M := by
  show Z E jX6_holds D 0 (zQi post px) 93 0 [.ref 36, .int y1, zU, .int y3, .int y4, zU, zU, zU] [.int s0, .int s1, .ref 42] M
  obtain ⟨g2, h1⟩ := h
  refine z_iast dX6_holds_93 zs_42 g2 ?_
  generalize hhM3 : zup M 42 (s1).toNatClampNeg s0 = M3
  have h4 := h1 M3 hhM3.symm
  refine z_iinc dX6_holds_94 rfl (by decide) (ls' := [.ref 36, .int y1, zU, .int (y3 + (1 : Int32)), .int y4, zU, zU, zU]) rfl ?_
  refine z_goto (tgt := 287) dX6_holds_97 (by decide) ?_
  exact h4
