theorem e_X5_remember {E : zEv} {D : Nat} {post : zM → Prop} {px : String → zM → Prop} {M : zM}   (h : vp_in (M.1 59 2) 12 ∧ zCv E jX3_copy D 0 [.ref (zcourt ((M.1 59 2)).toNatClampNeg), .ref 61] M (fun M3 => ∀ M5 : zM, M5 = zup M3 59 2 (zrem ((M3.1 59 2) + (1 : Int32)) (12 : Int32)) → ∀ M7 : zM, M7 = zup M5 59 1 (zmin (12 : Int32) ((M5.1 59 1) + (1 : Int32))) → post M7) px) : zCv E jX5_remember (D + 1) 0 [.ref 59, .ref 61] M post px := by
  refine z_meth (by decide) (Nat.le_of_ble_eq_true rfl) ?_
  show Z E jX5_remember (D + 1) 0 (zQv post px) 0 0 [.ref 59, .ref 61, zU] [] M
  refine z_aload_n dX5_remember_0 rfl ?_
  refine z_getR dX5_remember_1 zg_X5_11 zs_59 rfl ?_
  refine z_aload_n dX5_remember_4 rfl ?_
  refine z_getI dX5_remember_5 zg_X5_21 zs_59 rfl ?_
  obtain ⟨g2, h1⟩ := h
  refine z_aald dX5_remember_8 zs_60 g2 ?_
  refine z_astore_n dX5_remember_9 (by decide) (ls' := [.ref 59, .ref 61, .ref (zcourt ((M.1 59 2)).toNatClampNeg)]) rfl ?_
  refine z_aload_n dX5_remember_10 rfl ?_
  refine z_ifnonnull (tgt := 15) dX5_remember_11 (by decide) ?_
  refine z_aload_n dX5_remember_15 rfl ?_
  refine z_aload_n dX5_remember_16 rfl ?_
  refine z_callVv (As := [.ref 61]) (st := []) dX5_remember_17 zi_X5_25 rfl rfl (zsC_0 (zIsC_court g2)) rfl rfl (Nat.le_of_ble_eq_true rfl) (by decide) (fun _ _ hx => hx) h1 ?_
  intro M3 h4
  refine z_aload_n dX5_remember_20 rfl ?_
  refine z_aload_n dX5_remember_21 rfl ?_
  refine z_getI dX5_remember_22 zg_X5_21 zs_59 rfl ?_
  refine z_iconst (v := (1 : Int32)) dX5_remember_25 rfl ?_
  refine z_iadd dX5_remember_26 ?_
  refine z_bipush (v := (12 : Int32)) dX5_remember_27 rfl ?_
  refine z_irem dX5_remember_29 (by decide) ?_
  refine z_putI dX5_remember_30 zp_X5_21 zs_59 rfl rfl rfl ?_
  generalize hhM5 : zup M3 59 2 (zrem ((M3.1 59 2) + (1 : Int32)) (12 : Int32)) = M5
  have h6 := h4 M5 hhM5.symm
  refine z_aload_n dX5_remember_33 rfl ?_
  refine z_bipush (v := (12 : Int32)) dX5_remember_34 rfl ?_
  refine z_aload_n dX5_remember_36 rfl ?_
  refine z_getI dX5_remember_37 zg_X5_17 zs_59 rfl ?_
  refine z_iconst (v := (1 : Int32)) dX5_remember_40 rfl ?_
  refine z_iadd dX5_remember_41 ?_
  refine z_min dX5_remember_42 zm_X5_29 (Nat.le_of_ble_eq_true rfl) (by decide) ?_
  refine z_putI dX5_remember_45 zp_X5_17 zs_59 rfl rfl rfl ?_
  generalize hhM7 : zup M5 59 1 (zmin (12 : Int32) ((M5.1 59 1) + (1 : Int32))) = M7
  have h8 := h6 M7 hhM7.symm
  exact z_vret dX5_remember_48 rfl (by decide) h8
def w_X5_undoInto_31 (E : zEv) (D : Nat) (post : Int32 → zM → Prop) (px : String → zM → Prop)   (M : zM) : Prop := Z E jX5_undoInto (D + 1) 0 (zQi post px) 31 0 [zU, zU, zU, zU] [] M
theorem e_X5_undoInto {E : zEv} {D : Nat} {post : Int32 → zM → Prop} {px : String → zM → Prop} {M : zM}   (h : vp_in (zrem (((M.1 59 2) + (12 : Int32)) - (1 : Int32)) (12 : Int32)) 12 ∧ (((M.1 59 1) = 0 → w_X5_undoInto_31 E D post px  M) ∧ (¬ (M.1 59 1) = 0 → zCv E jX3_copy D 0 [.ref 61, .ref (zcourt ((zrem (((M.1 59 2) + (12 : Int32)) - (1 : Int32)) (12 : Int32))).toNatClampNeg)] M (fun M6 => ∀ M8 : zM, M8 = zup M6 59 2 (zrem (((M.1 59 2) + (12 : Int32)) - (1 : Int32)) (12 : Int32)) → ∀ M10 : zM, M10 = zup M8 59 1 ((M8.1 59 1) - (1 : Int32)) → post (1 : Int32) M10) px))) : zCi E jX5_undoInto (D + 1) 0 [.ref 59, .ref 61] M post px := by
  refine z_meth (by decide) (Nat.le_of_ble_eq_true rfl) ?_
  show Z E jX5_undoInto (D + 1) 0 (zQi post px) 0 0 [.ref 59, .ref 61, zU, zU] [] M
  refine z_aload_n dX5_undoInto_0 rfl ?_
  refine z_getI dX5_undoInto_1 zg_X5_21 zs_59 rfl ?_
  refine z_bipush (v := (12 : Int32)) dX5_undoInto_4 rfl ?_
  refine z_iadd dX5_undoInto_6 ?_
  refine z_iconst (v := (1 : Int32)) dX5_undoInto_7 rfl ?_
  refine z_isub dX5_undoInto_8 ?_
  refine z_bipush (v := (12 : Int32)) dX5_undoInto_9 rfl ?_
  refine z_irem dX5_undoInto_11 (by decide) ?_
  refine z_istore_n dX5_undoInto_12 (by decide) (ls' := [.ref 59, .ref 61, .int (zrem (((M.1 59 2) + (12 : Int32)) - (1 : Int32)) (12 : Int32)), zU]) rfl ?_
  refine z_aload_n dX5_undoInto_13 rfl ?_
  refine z_getR dX5_undoInto_14 zg_X5_11 zs_59 rfl ?_
  refine z_iload_n dX5_undoInto_17 rfl ?_
  obtain ⟨g2, h1⟩ := h
  refine z_aald dX5_undoInto_18 zs_60 g2 ?_
  refine z_astore_n dX5_undoInto_19 (by decide) (ls' := [.ref 59, .ref 61, .int (zrem (((M.1 59 2) + (12 : Int32)) - (1 : Int32)) (12 : Int32)), .ref (zcourt ((zrem (((M.1 59 2) + (12 : Int32)) - (1 : Int32)) (12 : Int32))).toNatClampNeg)]) rfl ?_
  refine z_aload_n dX5_undoInto_20 rfl ?_
  refine z_getI dX5_undoInto_21 zg_X5_17 zs_59 rfl ?_
  refine z_if_eq (tgt := 31) dX5_undoInto_24 (by decide) (fun g3 => ?_) (fun g3 => ?_)
  · have h4 := h1.1 g3
    refine z_weak [false, false, false, false] (ls' := [zU, zU, zU, zU]) rfl rfl ?_
    exact h4
  · have h5 := h1.2 g3
    refine z_aload_n dX5_undoInto_27 rfl ?_
    refine z_ifnonnull (tgt := 33) dX5_undoInto_28 (by decide) ?_
    refine z_aload_n dX5_undoInto_33 rfl ?_
    refine z_aload_n dX5_undoInto_34 rfl ?_
    refine z_callVv (As := [.ref (zcourt ((zrem (((M.1 59 2) + (12 : Int32)) - (1 : Int32)) (12 : Int32))).toNatClampNeg)]) (st := []) dX5_undoInto_35 zi_X5_25 rfl rfl zs_61 rfl rfl (Nat.le_of_ble_eq_true rfl) (by decide) (fun _ _ hx => hx) h5 ?_
    intro M6 h7
    refine z_aload_n dX5_undoInto_38 rfl ?_
    refine z_iload_n dX5_undoInto_39 rfl ?_
    refine z_putI dX5_undoInto_40 zp_X5_21 zs_59 rfl rfl rfl ?_
    generalize hhM8 : zup M6 59 2 (zrem (((M.1 59 2) + (12 : Int32)) - (1 : Int32)) (12 : Int32)) = M8
    have h9 := h7 M8 hhM8.symm
    refine z_aload_n dX5_undoInto_43 rfl ?_
    refine z_dup dX5_undoInto_44 rfl ?_
    refine z_getI dX5_undoInto_45 zg_X5_17 zs_59 rfl ?_
    refine z_iconst (v := (1 : Int32)) dX5_undoInto_48 rfl ?_
    refine z_isub dX5_undoInto_49 ?_
    refine z_putI dX5_undoInto_50 zp_X5_17 zs_59 rfl rfl rfl ?_
    generalize hhM10 : zup M8 59 1 ((M8.1 59 1) - (1 : Int32)) = M10
    have h11 := h9 M10 hhM10.symm
    refine z_iconst (v := (1 : Int32)) dX5_undoInto_53 rfl ?_
    exact z_iret dX5_undoInto_54 rfl (by decide) (by decide) h11
theorem t_X5_undoInto_31 {E : zEv} {D : Nat} {post : Int32 → zM → Prop} {px : String → zM → Prop} {M : zM}    (h : post (0 : Int32) M) : w_X5_undoInto_31 E D post px  M := by
  show Z E jX5_undoInto (D + 1) 0 (zQi post px) 31 0 [zU, zU, zU, zU] [] M
  refine z_iconst (v := (0 : Int32)) dX5_undoInto_31 rfl ?_
  exact z_iret dX5_undoInto_32 rfl (by decide) (by decide) h
theorem e_X5_forget {E : zEv} {D : Nat} {post : zM → Prop} {px : String → zM → Prop} {M : zM}   (h : ∀ M1 : zM, M1 = zup M 59 1 (0 : Int32) → post M1) : zCv E jX5_forget D 0 [.ref 59] M post px := by
  refine z_meth (by decide) (Nat.le_of_ble_eq_true rfl) ?_
  show Z E jX5_forget D 0 (zQv post px) 0 0 [.ref 59] [] M
  refine z_aload_n dX5_forget_0 rfl ?_
  refine z_iconst (v := (0 : Int32)) dX5_forget_1 rfl ?_
  refine z_putI dX5_forget_2 zp_X5_17 zs_59 rfl rfl rfl ?_
  generalize hhM1 : zup M 59 1 (0 : Int32) = M1
  have h2 := h M1 hhM1.symm
  exact z_vret dX5_forget_5 rfl (by decide) h2
