def w_X9_add_3 (E : zEv) (D : Nat) (post : zM → Prop) (px : String → zM → Prop)  (y1 : Int32) (y2 : Int32) (M : zM) : Prop := Z E jX9_add D 0 (zQv post px) 3 0 [.ref 20, .int y1, .int y2] [] M
def w_X9_add_49 (E : zEv) (D : Nat) (post : zM → Prop) (px : String → zM → Prop)   (M : zM) : Prop := Z E jX9_add D 0 (zQv post px) 49 0 [zU, zU, zU] [] M
theorem e_X9_add {E : zEv} {D : Nat} {post : zM → Prop} {px : String → zM → Prop} {M : zM} {x1 : Int32}  (h : w_X9_add_3 E D post px x1 (24 : Int32) M) : zCv E jX9_add D 0 [.ref 20, .int x1] M post px := by
  refine z_meth (by decide) (Nat.le_of_ble_eq_true rfl) ?_
  show Z E jX9_add D 0 (zQv post px) 0 0 [.ref 20, .int x1, zU] [] M
  refine z_bipush (v := (24 : Int32)) dX9_add_0 rfl ?_
  refine z_istore_n dX9_add_2 (by decide) (ls' := [.ref 20, .int x1, .int (24 : Int32)]) rfl ?_
  exact h
theorem t_X9_add_3 {E : zEv} {D : Nat} {post : zM → Prop} {px : String → zM → Prop} {M : zM}   {y1 : Int32} {y2 : Int32} (h : ((y2 < 0 → w_X9_add_49 E D post px  M) ∧ (¬ y2 < 0 → (((400 : Int32) ≤ (M.1 20 1) → w_X9_add_49 E D post px  M) ∧ (¬ (400 : Int32) ≤ (M.1 20 1) → vp_in (M.1 20 1) 400 ∧ ∀ M9 : zM, M9 = zup M 21 ((M.1 20 1)).toNatClampNeg ((zushr y1 y2) &&& (255 : Int32)) → ∀ M11 : zM, M11 = zup M9 20 1 ((M9.1 20 1) + (1 : Int32)) → w_X9_add_3 E D post px y1 (y2 + (-8 : Int32)) M11))))) : w_X9_add_3 E D post px y1 y2 M := by
  show Z E jX9_add D 0 (zQv post px) 3 0 [.ref 20, .int y1, .int y2] [] M
  refine z_iload_n dX9_add_3 rfl ?_
  refine z_if_lt (tgt := 49) dX9_add_4 (by decide) (fun g1 => ?_) (fun g1 => ?_)
  · have h2 := h.1 g1
    refine z_weak [false, false, false] (ls' := [zU, zU, zU]) rfl rfl ?_
    exact h2
  · have h3 := h.2 g1
    refine z_aload_n dX9_add_7 rfl ?_
    refine z_getI dX9_add_8 zg_X9_15 zs_20 rfl ?_
    refine z_sipush (v := (400 : Int32)) dX9_add_11 rfl ?_
    refine z_icmp_ge (tgt := 49) dX9_add_14 (by decide) (fun g4 => ?_) (fun g4 => ?_)
    · have h5 := h3.1 g4
      refine z_weak [false, false, false] (ls' := [zU, zU, zU]) rfl rfl ?_
      exact h5
    · have h6 := h3.2 g4
      refine z_aload_n dX9_add_17 rfl ?_
      refine z_getR dX9_add_18 zg_X9_9 zs_20 rfl ?_
      refine z_aload_n dX9_add_21 rfl ?_
      refine z_getI dX9_add_22 zg_X9_15 zs_20 rfl ?_
      refine z_iload_n dX9_add_25 rfl ?_
      refine z_iload_n dX9_add_26 rfl ?_
      refine z_iushr (v := (zushr y1 y2)) dX9_add_27 rfl ?_
      refine z_sipush (v := (255 : Int32)) dX9_add_28 rfl ?_
      refine z_iand dX9_add_31 ?_
      obtain ⟨g8, h7⟩ := h6
      refine z_iast dX9_add_32 zs_21 g8 ?_
      generalize hhM9 : zup M 21 ((M.1 20 1)).toNatClampNeg ((zushr y1 y2) &&& (255 : Int32)) = M9
      have h10 := h7 M9 hhM9.symm
      refine z_aload_n dX9_add_33 rfl ?_
      refine z_dup dX9_add_34 rfl ?_
      refine z_getI dX9_add_35 zg_X9_15 zs_20 rfl ?_
      refine z_iconst (v := (1 : Int32)) dX9_add_38 rfl ?_
      refine z_iadd dX9_add_39 ?_
      refine z_putI dX9_add_40 zp_X9_15 zs_20 rfl rfl rfl ?_
      generalize hhM11 : zup M9 20 1 ((M9.1 20 1) + (1 : Int32)) = M11
      have h12 := h10 M11 hhM11.symm
      refine z_iinc dX9_add_43 rfl (by decide) (ls' := [.ref 20, .int y1, .int (y2 + (-8 : Int32))]) rfl ?_
      refine z_goto (tgt := 3) dX9_add_46 (by decide) ?_
      exact h12
theorem t_X9_add_49 {E : zEv} {D : Nat} {post : zM → Prop} {px : String → zM → Prop} {M : zM}    (h : post M) : w_X9_add_49 E D post px  M := by
  show Z E jX9_add D 0 (zQv post px) 49 0 [zU, zU, zU] [] M
  exact z_vret dX9_add_49 rfl (by decide) h
theorem e_X9_useUp {E : zEv} {D : Nat} {post : Int32 → zM → Prop} {px : String → zM → Prop} {M : zM}   (h : ∀ M1 : zM, M1 = zup M 20 1 (0 : Int32) → post (M.1 20 1) M1) : zCi E jX9_useUp D 0 [.ref 20] M post px := by
  refine z_meth (by decide) (Nat.le_of_ble_eq_true rfl) ?_
  show Z E jX9_useUp D 0 (zQi post px) 0 0 [.ref 20, zU] [] M
  refine z_aload_n dX9_useUp_0 rfl ?_
  refine z_getI dX9_useUp_1 zg_X9_15 zs_20 rfl ?_
  refine z_istore_n dX9_useUp_4 (by decide) (ls' := [.ref 20, .int (M.1 20 1)]) rfl ?_
  refine z_aload_n dX9_useUp_5 rfl ?_
  refine z_iconst (v := (0 : Int32)) dX9_useUp_6 rfl ?_
  refine z_putI dX9_useUp_7 zp_X9_15 zs_20 rfl rfl rfl ?_
  generalize hhM1 : zup M 20 1 (0 : Int32) = M1
  have h2 := h M1 hhM1.symm
  refine z_iload_n dX9_useUp_10 rfl ?_
  exact z_iret dX9_useUp_11 rfl rfl (by decide) h2
def w_X9_told_17 (E : zEv) (D : Nat) (post : Int32 → zM → Prop) (px : String → zM → Prop)   (M : zM) : Prop := Z E jX9_told D 0 (zQi post px) 17 0 [zU, zU, zU, zU] [] M
def w_X9_told_27 (E : zEv) (D : Nat) (post : Int32 → zM → Prop) (px : String → zM → Prop)  (s0 : Int32) (M : zM) : Prop := Z E jX9_told D 0 (zQi post px) 27 0 [zU, zU, zU, zU] [.int s0] M
theorem e_X9_told {E : zEv} {D : Nat} {post : Int32 → zM → Prop} {px : String → zM → Prop} {M : zM} {x1 : Int32} {x2 : Int32}  (h : (((((3 : Int32) * x1) + x2) < 0 → w_X9_told_17 E D post px  M) ∧ (¬ (((3 : Int32) * x1) + x2) < 0 → (((((3 : Int32) * x1) + x2) < (400 : Int32) → vp_in (((3 : Int32) * x1) + x2) 400 ∧ w_X9_told_27 E D post px (M.1 21 ((((3 : Int32) * x1) + x2)).toNatClampNeg) M) ∧ (¬ (((3 : Int32) * x1) + x2) < (400 : Int32) → w_X9_told_17 E D post px  M))))) : zCi E jX9_told D 0 [.ref 20, .int x1, .int x2] M post px := by
  refine z_meth (by decide) (Nat.le_of_ble_eq_true rfl) ?_
  show Z E jX9_told D 0 (zQi post px) 0 0 [.ref 20, .int x1, .int x2, zU] [] M
  refine z_iconst (v := (3 : Int32)) dX9_told_0 rfl ?_
  refine z_iload_n dX9_told_1 rfl ?_
  refine z_imul dX9_told_2 ?_
  refine z_iload_n dX9_told_3 rfl ?_
  refine z_iadd dX9_told_4 ?_
  refine z_istore_n dX9_told_5 (by decide) (ls' := [.ref 20, .int x1, .int x2, .int (((3 : Int32) * x1) + x2)]) rfl ?_
  refine z_iload_n dX9_told_6 rfl ?_
  refine z_if_lt (tgt := 17) dX9_told_7 (by decide) (fun g1 => ?_) (fun g1 => ?_)
  · have h2 := h.1 g1
    refine z_weak [false, false, false, false] (ls' := [zU, zU, zU, zU]) rfl rfl ?_
    exact h2
  · have h3 := h.2 g1
    refine z_iload_n dX9_told_10 rfl ?_
    refine z_sipush (v := (400 : Int32)) dX9_told_11 rfl ?_
    refine z_icmp_lt (tgt := 21) dX9_told_14 (by decide) (fun g4 => ?_) (fun g4 => ?_)
    · have h5 := h3.1 g4
      refine z_aload_n dX9_told_21 rfl ?_
      refine z_getR dX9_told_22 zg_X9_9 zs_20 rfl ?_
      refine z_iload_n dX9_told_25 rfl ?_
      obtain ⟨g8, h7⟩ := h5
      refine z_iald dX9_told_26 zs_21 g8 ?_
      refine z_weak [false, false, false, false] (ls' := [zU, zU, zU, zU]) rfl rfl ?_
      exact h7
    · have h6 := h3.2 g4
      refine z_weak [false, false, false, false] (ls' := [zU, zU, zU, zU]) rfl rfl ?_
      exact h6
theorem t_X9_told_17 {E : zEv} {D : Nat} {post : Int32 → zM → Prop} {px : String → zM → Prop} {M : zM}    (h : w_X9_told_27 E D post px (0 : Int32) M) : w_X9_told_17 E D post px  M := by
  show Z E jX9_told D 0 (zQi post px) 17 0 [zU, zU, zU, zU] [] M
  refine z_iconst (v := (0 : Int32)) dX9_told_17 rfl ?_
  refine z_goto (tgt := 27) dX9_told_18 (by decide) ?_
  exact h
theorem t_X9_told_27 {E : zEv} {D : Nat} {post : Int32 → zM → Prop} {px : String → zM → Prop} {M : zM}   {s0 : Int32} (h : post s0 M) : w_X9_told_27 E D post px s0 M := by
  show Z E jX9_told D 0 (zQi post px) 27 0 [zU, zU, zU, zU] [.int s0] M
  exact z_iret dX9_told_27 rfl rfl (by decide) h
theorem e_X9_open {E : zEv} {D : Nat} {post : zM → Prop} {px : String → zM → Prop} {M : zM}   (h : ∀ M1 : zM, M1 = zup M 20 4 (0 : Int32) → zCv E jX9_advance D 0 [.ref 20] M1 (fun M3 => post M3) px) : zCv E jX9_open (D + 1) 0 [.ref 20] M post px := by
  refine z_meth (by decide) (Nat.le_of_ble_eq_true rfl) ?_
  show Z E jX9_open (D + 1) 0 (zQv post px) 0 0 [.ref 20] [] M
  refine z_aload_n dX9_open_0 rfl ?_
  refine z_iconst (v := (0 : Int32)) dX9_open_1 rfl ?_
  refine z_putI dX9_open_2 zp_X9_25 zs_20 rfl rfl rfl ?_
  generalize hhM1 : zup M 20 4 (0 : Int32) = M1
  have h2 := h M1 hhM1.symm
  refine z_aload_n dX9_open_5 rfl ?_
  refine z_callVv (As := []) (st := []) dX9_open_6 zi_X9_28 rfl rfl zs_20 rfl rfl (Nat.le_of_ble_eq_true rfl) (by decide) (fun _ _ hx => hx) h2 ?_
  intro M3 h4
  exact z_vret dX9_open_9 rfl (by decide) h4
def w_X9_advance_8 (E : zEv) (D : Nat) (post : zM → Prop) (px : String → zM → Prop)   (M : zM) : Prop := Z E jX9_advance D 0 (zQv post px) 8 0 [.ref 20] [] M
def w_X9_advance_46 (E : zEv) (D : Nat) (post : zM → Prop) (px : String → zM → Prop)   (M : zM) : Prop := Z E jX9_advance D 0 (zQv post px) 46 0 [.ref 20] [] M
def w_X9_advance_54 (E : zEv) (D : Nat) (post : zM → Prop) (px : String → zM → Prop)   (M : zM) : Prop := Z E jX9_advance D 0 (zQv post px) 54 0 [.ref 20] [] M
def w_X9_advance_106 (E : zEv) (D : Nat) (post : zM → Prop) (px : String → zM → Prop)   (M : zM) : Prop := Z E jX9_advance D 0 (zQv post px) 106 0 [.ref 20] [] M
def w_X9_advance_123 (E : zEv) (D : Nat) (post : zM → Prop) (px : String → zM → Prop)   (M : zM) : Prop := Z E jX9_advance D 0 (zQv post px) 123 0 [.ref 20] [] M
def w_X9_advance_175 (E : zEv) (D : Nat) (post : zM → Prop) (px : String → zM → Prop)   (M : zM) : Prop := Z E jX9_advance D 0 (zQv post px) 175 0 [.ref 20] [] M
def w_X9_advance_209 (E : zEv) (D : Nat) (post : zM → Prop) (px : String → zM → Prop)  (s0 : Int32) (M : zM) : Prop := Z E jX9_advance D 0 (zQv post px) 209 0 [.ref 20] [.int s0, .ref 20] M
def w_X9_advance_237 (E : zEv) (D : Nat) (post : zM → Prop) (px : String → zM → Prop)  (s0 : Int32) (M : zM) : Prop := Z E jX9_advance D 0 (zQv post px) 237 0 [zU] [.int s0, .ref 20] M
theorem e_X9_advance {E : zEv} {D : Nat} {post : zM → Prop} {px : String → zM → Prop} {M : zM}   (h : ∀ M1 : zM, M1 = zup M 20 3 (M.1 20 4) → w_X9_advance_8 E D post px  M1) : zCv E jX9_advance D 0 [.ref 20] M post px := by
  refine z_meth (by decide) (Nat.le_of_ble_eq_true rfl) ?_
  show Z E jX9_advance D 0 (zQv post px) 0 0 [.ref 20] [] M
  refine z_aload_n dX9_advance_0 rfl ?_
  refine z_aload_n dX9_advance_1 rfl ?_
  refine z_getI dX9_advance_2 zg_X9_25 zs_20 rfl ?_
  refine z_putI dX9_advance_5 zp_X9_22 zs_20 rfl rfl rfl ?_
  generalize hhM1 : zup M 20 3 (M.1 20 4) = M1
  have h2 := h M1 hhM1.symm
  exact h2
theorem t_X9_advance_8 {E : zEv} {D : Nat} {post : zM → Prop} {px : String → zM → Prop} {M : zM}    (h : (((M.1 20 1) ≤ (M.1 20 3) → w_X9_advance_46 E D post px  M) ∧ (¬ (M.1 20 1) ≤ (M.1 20 3) → vp_in (M.1 20 3) 400 ∧ ((¬ (M.1 21 ((M.1 20 3)).toNatClampNeg) = (32 : Int32) → w_X9_advance_46 E D post px  M) ∧ ((M.1 21 ((M.1 20 3)).toNatClampNeg) = (32 : Int32) → ∀ M9 : zM, M9 = zup M 20 3 ((M.1 20 3) + (1 : Int32)) → w_X9_advance_8 E D post px  M9))))) : w_X9_advance_8 E D post px  M := by
  show Z E jX9_advance D 0 (zQv post px) 8 0 [.ref 20] [] M
  refine z_aload_n dX9_advance_8 rfl ?_
  refine z_getI dX9_advance_9 zg_X9_22 zs_20 rfl ?_
  refine z_aload_n dX9_advance_12 rfl ?_
  refine z_getI dX9_advance_13 zg_X9_15 zs_20 rfl ?_
  refine z_icmp_ge (tgt := 46) dX9_advance_16 (by decide) (fun g1 => ?_) (fun g1 => ?_)
  · have h2 := h.1 g1
    exact h2
  · have h3 := h.2 g1
    refine z_aload_n dX9_advance_19 rfl ?_
    refine z_getR dX9_advance_20 zg_X9_9 zs_20 rfl ?_
    refine z_aload_n dX9_advance_23 rfl ?_
    refine z_getI dX9_advance_24 zg_X9_22 zs_20 rfl ?_
    obtain ⟨g5, h4⟩ := h3
    refine z_iald dX9_advance_27 zs_21 g5 ?_
    refine z_bipush (v := (32 : Int32)) dX9_advance_28 rfl ?_
    refine z_icmp_ne (tgt := 46) dX9_advance_30 (by decide) (fun g6 => ?_) (fun g6 => ?_)
    · have h7 := h4.1 g6
      exact h7
    · have h8 := h4.2 g6
      refine z_aload_n dX9_advance_33 rfl ?_
      refine z_dup dX9_advance_34 rfl ?_
      refine z_getI dX9_advance_35 zg_X9_22 zs_20 rfl ?_
      refine z_iconst (v := (1 : Int32)) dX9_advance_38 rfl ?_
      refine z_iadd dX9_advance_39 ?_
      refine z_putI dX9_advance_40 zp_X9_22 zs_20 rfl rfl rfl ?_
      generalize hhM9 : zup M 20 3 ((M.1 20 3) + (1 : Int32)) = M9
      have h10 := h8 M9 hhM9.symm
      refine z_goto (tgt := 8) dX9_advance_43 (by decide) ?_
      exact h10
theorem t_X9_advance_46 {E : zEv} {D : Nat} {post : zM → Prop} {px : String → zM → Prop} {M : zM}    (h : ∀ M1 : zM, M1 = zup M 20 4 (M.1 20 3) → w_X9_advance_54 E D post px  M1) : w_X9_advance_46 E D post px  M := by
  show Z E jX9_advance D 0 (zQv post px) 46 0 [.ref 20] [] M
  refine z_aload_n dX9_advance_46 rfl ?_
  refine z_aload_n dX9_advance_47 rfl ?_
  refine z_getI dX9_advance_48 zg_X9_22 zs_20 rfl ?_
  refine z_putI dX9_advance_51 zp_X9_25 zs_20 rfl rfl rfl ?_
  generalize hhM1 : zup M 20 4 (M.1 20 3) = M1
  have h2 := h M1 hhM1.symm
  exact h2
theorem t_X9_advance_54 {E : zEv} {D : Nat} {post : zM → Prop} {px : String → zM → Prop} {M : zM}    (h : (((M.1 20 1) ≤ (M.1 20 4) → w_X9_advance_106 E D post px  M) ∧ (¬ (M.1 20 1) ≤ (M.1 20 4) → vp_in (M.1 20 4) 400 ∧ (((M.1 21 ((M.1 20 4)).toNatClampNeg) < (97 : Int32) → w_X9_advance_106 E D post px  M) ∧ (¬ (M.1 21 ((M.1 20 4)).toNatClampNeg) < (97 : Int32) → vp_in (M.1 20 4) 400 ∧ (((122 : Int32) < (M.1 21 ((M.1 20 4)).toNatClampNeg) → w_X9_advance_106 E D post px  M) ∧ (¬ (122 : Int32) < (M.1 21 ((M.1 20 4)).toNatClampNeg) → ∀ M14 : zM, M14 = zup M 20 4 ((M.1 20 4) + (1 : Int32)) → w_X9_advance_54 E D post px  M14))))))) : w_X9_advance_54 E D post px  M := by
  show Z E jX9_advance D 0 (zQv post px) 54 0 [.ref 20] [] M
  refine z_aload_n dX9_advance_54 rfl ?_
  refine z_getI dX9_advance_55 zg_X9_25 zs_20 rfl ?_
  refine z_aload_n dX9_advance_58 rfl ?_
  refine z_getI dX9_advance_59 zg_X9_15 zs_20 rfl ?_
  refine z_icmp_ge (tgt := 106) dX9_advance_62 (by decide) (fun g1 => ?_) (fun g1 => ?_)
  · have h2 := h.1 g1
    exact h2
  · have h3 := h.2 g1
    refine z_aload_n dX9_advance_65 rfl ?_
    refine z_getR dX9_advance_66 zg_X9_9 zs_20 rfl ?_
    refine z_aload_n dX9_advance_69 rfl ?_
    refine z_getI dX9_advance_70 zg_X9_25 zs_20 rfl ?_
    obtain ⟨g5, h4⟩ := h3
    refine z_iald dX9_advance_73 zs_21 g5 ?_
    refine z_bipush (v := (97 : Int32)) dX9_advance_74 rfl ?_
    refine z_icmp_lt (tgt := 106) dX9_advance_76 (by decide) (fun g6 => ?_) (fun g6 => ?_)
    · have h7 := h4.1 g6
      exact h7
    · have h8 := h4.2 g6
      refine z_aload_n dX9_advance_79 rfl ?_
      refine z_getR dX9_advance_80 zg_X9_9 zs_20 rfl ?_
      refine z_aload_n dX9_advance_83 rfl ?_
      refine z_getI dX9_advance_84 zg_X9_25 zs_20 rfl ?_
      obtain ⟨g10, h9⟩ := h8
      refine z_iald dX9_advance_87 zs_21 g10 ?_
      refine z_bipush (v := (122 : Int32)) dX9_advance_88 rfl ?_
      refine z_icmp_gt (tgt := 106) dX9_advance_90 (by decide) (fun g11 => ?_) (fun g11 => ?_)
      · have h12 := h9.1 g11
        exact h12
      · have h13 := h9.2 g11
        refine z_aload_n dX9_advance_93 rfl ?_
        refine z_dup dX9_advance_94 rfl ?_
        refine z_getI dX9_advance_95 zg_X9_25 zs_20 rfl ?_
        refine z_iconst (v := (1 : Int32)) dX9_advance_98 rfl ?_
        refine z_iadd dX9_advance_99 ?_
        refine z_putI dX9_advance_100 zp_X9_25 zs_20 rfl rfl rfl ?_
        generalize hhM14 : zup M 20 4 ((M.1 20 4) + (1 : Int32)) = M14
        have h15 := h13 M14 hhM14.symm
        refine z_goto (tgt := 54) dX9_advance_103 (by decide) ?_
        exact h15
theorem t_X9_advance_106 {E : zEv} {D : Nat} {post : zM → Prop} {px : String → zM → Prop} {M : zM}    (h : ∀ M1 : zM, M1 = zup M 20 2 (1 : Int32) → (((M1.1 20 4) ≤ (M1.1 20 3) → w_X9_advance_123 E D post px  M1) ∧ (¬ (M1.1 20 4) ≤ (M1.1 20 3) → post M1))) : w_X9_advance_106 E D post px  M := by
  show Z E jX9_advance D 0 (zQv post px) 106 0 [.ref 20] [] M
  refine z_aload_n dX9_advance_106 rfl ?_
  refine z_iconst (v := (1 : Int32)) dX9_advance_107 rfl ?_
  refine z_putI dX9_advance_108 zp_X9_19 zs_20 rfl rfl rfl ?_
  generalize hhM1 : zup M 20 2 (1 : Int32) = M1
  have h2 := h M1 hhM1.symm
  refine z_aload_n dX9_advance_111 rfl ?_
  refine z_getI dX9_advance_112 zg_X9_25 zs_20 rfl ?_
  refine z_aload_n dX9_advance_115 rfl ?_
  refine z_getI dX9_advance_116 zg_X9_22 zs_20 rfl ?_
  refine z_icmp_le (tgt := 123) dX9_advance_119 (by decide) (fun g3 => ?_) (fun g3 => ?_)
  · have h4 := h2.1 g3
    exact h4
  · have h5 := h2.2 g3
    exact z_vret dX9_advance_122 rfl (by decide) h5
theorem t_X9_advance_123 {E : zEv} {D : Nat} {post : zM → Prop} {px : String → zM → Prop} {M : zM}    (h : (((M.1 20 1) ≤ (M.1 20 4) → w_X9_advance_175 E D post px  M) ∧ (¬ (M.1 20 1) ≤ (M.1 20 4) → vp_in (M.1 20 4) 400 ∧ (((M.1 21 ((M.1 20 4)).toNatClampNeg) < (48 : Int32) → w_X9_advance_175 E D post px  M) ∧ (¬ (M.1 21 ((M.1 20 4)).toNatClampNeg) < (48 : Int32) → vp_in (M.1 20 4) 400 ∧ (((57 : Int32) < (M.1 21 ((M.1 20 4)).toNatClampNeg) → w_X9_advance_175 E D post px  M) ∧ (¬ (57 : Int32) < (M.1 21 ((M.1 20 4)).toNatClampNeg) → ∀ M14 : zM, M14 = zup M 20 4 ((M.1 20 4) + (1 : Int32)) → w_X9_advance_123 E D post px  M14))))))) : w_X9_advance_123 E D post px  M := by
  show Z E jX9_advance D 0 (zQv post px) 123 0 [.ref 20] [] M
  refine z_aload_n dX9_advance_123 rfl ?_
  refine z_getI dX9_advance_124 zg_X9_25 zs_20 rfl ?_
  refine z_aload_n dX9_advance_127 rfl ?_
  refine z_getI dX9_advance_128 zg_X9_15 zs_20 rfl ?_
  refine z_icmp_ge (tgt := 175) dX9_advance_131 (by decide) (fun g1 => ?_) (fun g1 => ?_)
  · have h2 := h.1 g1
    exact h2
  · have h3 := h.2 g1
    refine z_aload_n dX9_advance_134 rfl ?_
    refine z_getR dX9_advance_135 zg_X9_9 zs_20 rfl ?_
    refine z_aload_n dX9_advance_138 rfl ?_
    refine z_getI dX9_advance_139 zg_X9_25 zs_20 rfl ?_
    obtain ⟨g5, h4⟩ := h3
    refine z_iald dX9_advance_142 zs_21 g5 ?_
    refine z_bipush (v := (48 : Int32)) dX9_advance_143 rfl ?_
    refine z_icmp_lt (tgt := 175) dX9_advance_145 (by decide) (fun g6 => ?_) (fun g6 => ?_)
    · have h7 := h4.1 g6
      exact h7
    · have h8 := h4.2 g6
      refine z_aload_n dX9_advance_148 rfl ?_
      refine z_getR dX9_advance_149 zg_X9_9 zs_20 rfl ?_
      refine z_aload_n dX9_advance_152 rfl ?_
      refine z_getI dX9_advance_153 zg_X9_25 zs_20 rfl ?_
      obtain ⟨g10, h9⟩ := h8
      refine z_iald dX9_advance_156 zs_21 g10 ?_
      refine z_bipush (v := (57 : Int32)) dX9_advance_157 rfl ?_
      refine z_icmp_gt (tgt := 175) dX9_advance_159 (by decide) (fun g11 => ?_) (fun g11 => ?_)
      · have h12 := h9.1 g11
        exact h12
      · have h13 := h9.2 g11
        refine z_aload_n dX9_advance_162 rfl ?_
        refine z_dup dX9_advance_163 rfl ?_
        refine z_getI dX9_advance_164 zg_X9_25 zs_20 rfl ?_
        refine z_iconst (v := (1 : Int32)) dX9_advance_167 rfl ?_
        refine z_iadd dX9_advance_168 ?_
        refine z_putI dX9_advance_169 zp_X9_25 zs_20 rfl rfl rfl ?_
        generalize hhM14 : zup M 20 4 ((M.1 20 4) + (1 : Int32)) = M14
        have h15 := h13 M14 hhM14.symm
        refine z_goto (tgt := 123) dX9_advance_172 (by decide) ?_
        exact h15
theorem t_X9_advance_175 {E : zEv} {D : Nat} {post : zM → Prop} {px : String → zM → Prop} {M : zM}    (h : ∀ M1 : zM, M1 = zup M 20 2 (2 : Int32) → (((M1.1 20 4) ≤ (M1.1 20 3) → (((M1.1 20 1) ≤ (M1.1 20 3) → w_X9_advance_209 E D post px (0 : Int32) M1) ∧ (¬ (M1.1 20 1) ≤ (M1.1 20 3) → w_X9_advance_209 E D post px (3 : Int32) M1))) ∧ (¬ (M1.1 20 4) ≤ (M1.1 20 3) → post M1))) : w_X9_advance_175 E D post px  M := by
  show Z E jX9_advance D 0 (zQv post px) 175 0 [.ref 20] [] M
  refine z_aload_n dX9_advance_175 rfl ?_
  refine z_iconst (v := (2 : Int32)) dX9_advance_176 rfl ?_
  refine z_putI dX9_advance_177 zp_X9_19 zs_20 rfl rfl rfl ?_
  generalize hhM1 : zup M 20 2 (2 : Int32) = M1
  have h2 := h M1 hhM1.symm
  refine z_aload_n dX9_advance_180 rfl ?_
  refine z_getI dX9_advance_181 zg_X9_25 zs_20 rfl ?_
  refine z_aload_n dX9_advance_184 rfl ?_
  refine z_getI dX9_advance_185 zg_X9_22 zs_20 rfl ?_
  refine z_icmp_le (tgt := 192) dX9_advance_188 (by decide) (fun g3 => ?_) (fun g3 => ?_)
  · have h4 := h2.1 g3
    refine z_aload_n dX9_advance_192 rfl ?_
    refine z_aload_n dX9_advance_193 rfl ?_
    refine z_getI dX9_advance_194 zg_X9_22 zs_20 rfl ?_
    refine z_aload_n dX9_advance_197 rfl ?_
    refine z_getI dX9_advance_198 zg_X9_15 zs_20 rfl ?_
    refine z_icmp_ge (tgt := 208) dX9_advance_201 (by decide) (fun g6 => ?_) (fun g6 => ?_)
    · have h7 := h4.1 g6
      refine z_iconst (v := (0 : Int32)) dX9_advance_208 rfl ?_
      exact h7
    · have h8 := h4.2 g6
      refine z_iconst (v := (3 : Int32)) dX9_advance_204 rfl ?_
      refine z_goto (tgt := 209) dX9_advance_205 (by decide) ?_
      exact h8
  · have h5 := h2.2 g3
    exact z_vret dX9_advance_191 rfl (by decide) h5
theorem t_X9_advance_209 {E : zEv} {D : Nat} {post : zM → Prop} {px : String → zM → Prop} {M : zM}   {s0 : Int32} (h : ∀ M1 : zM, M1 = zup M 20 2 s0 → (((M1.1 20 1) ≤ (M1.1 20 3) → w_X9_advance_237 E D post px (M1.1 20 3) M1) ∧ (¬ (M1.1 20 1) ≤ (M1.1 20 3) → w_X9_advance_237 E D post px ((M1.1 20 3) + (1 : Int32)) M1))) : w_X9_advance_209 E D post px s0 M := by
  show Z E jX9_advance D 0 (zQv post px) 209 0 [.ref 20] [.int s0, .ref 20] M
  refine z_putI dX9_advance_209 zp_X9_19 zs_20 rfl rfl rfl ?_
  generalize hhM1 : zup M 20 2 s0 = M1
  have h2 := h M1 hhM1.symm
  refine z_aload_n dX9_advance_212 rfl ?_
  refine z_aload_n dX9_advance_213 rfl ?_
  refine z_getI dX9_advance_214 zg_X9_22 zs_20 rfl ?_
  refine z_aload_n dX9_advance_217 rfl ?_
  refine z_getI dX9_advance_218 zg_X9_15 zs_20 rfl ?_
  refine z_icmp_ge (tgt := 233) dX9_advance_221 (by decide) (fun g3 => ?_) (fun g3 => ?_)
  · have h4 := h2.1 g3
    refine z_aload_n dX9_advance_233 rfl ?_
    refine z_getI dX9_advance_234 zg_X9_22 zs_20 rfl ?_
    refine z_weak [false] (ls' := [zU]) rfl rfl ?_
    exact h4
  · have h5 := h2.2 g3
    refine z_aload_n dX9_advance_224 rfl ?_
    refine z_getI dX9_advance_225 zg_X9_22 zs_20 rfl ?_
    refine z_iconst (v := (1 : Int32)) dX9_advance_228 rfl ?_
    refine z_iadd dX9_advance_229 ?_
    refine z_goto (tgt := 237) dX9_advance_230 (by decide) ?_
    refine z_weak [false] (ls' := [zU]) rfl rfl ?_
    exact h5
theorem t_X9_advance_237 {E : zEv} {D : Nat} {post : zM → Prop} {px : String → zM → Prop} {M : zM}   {s0 : Int32} (h : ∀ M1 : zM, M1 = zup M 20 4 s0 → post M1) : w_X9_advance_237 E D post px s0 M := by
  show Z E jX9_advance D 0 (zQv post px) 237 0 [zU] [.int s0, .ref 20] M
  refine z_putI dX9_advance_237 zp_X9_25 zs_20 rfl rfl rfl ?_
  generalize hhM1 : zup M 20 4 s0 = M1
  have h2 := h M1 hhM1.symm
  exact z_vret dX9_advance_240 rfl (by decide) h2
def w_X9_isEnd_12 (E : zEv) (D : Nat) (post : Int32 → zM → Prop) (px : String → zM → Prop)  (s0 : Int32) (M : zM) : Prop := Z E jX9_isEnd D 0 (zQi post px) 12 0 [zU] [.int s0] M
theorem e_X9_isEnd {E : zEv} {D : Nat} {post : Int32 → zM → Prop} {px : String → zM → Prop} {M : zM}   (h : ((¬ (M.1 20 2) = 0 → w_X9_isEnd_12 E D post px (0 : Int32) M) ∧ ((M.1 20 2) = 0 → w_X9_isEnd_12 E D post px (1 : Int32) M))) : zCi E jX9_isEnd D 0 [.ref 20] M post px := by
  refine z_meth (by decide) (Nat.le_of_ble_eq_true rfl) ?_
  show Z E jX9_isEnd D 0 (zQi post px) 0 0 [.ref 20] [] M
  refine z_aload_n dX9_isEnd_0 rfl ?_
  refine z_getI dX9_isEnd_1 zg_X9_19 zs_20 rfl ?_
  refine z_if_ne (tgt := 11) dX9_isEnd_4 (by decide) (fun g1 => ?_) (fun g1 => ?_)
  · have h2 := h.1 g1
    refine z_iconst (v := (0 : Int32)) dX9_isEnd_11 rfl ?_
    refine z_weak [false] (ls' := [zU]) rfl rfl ?_
    exact h2
  · have h3 := h.2 g1
    refine z_iconst (v := (1 : Int32)) dX9_isEnd_7 rfl ?_
    refine z_goto (tgt := 12) dX9_isEnd_8 (by decide) ?_
    refine z_weak [false] (ls' := [zU]) rfl rfl ?_
    exact h3
theorem t_X9_isEnd_12 {E : zEv} {D : Nat} {post : Int32 → zM → Prop} {px : String → zM → Prop} {M : zM}   {s0 : Int32} (h : (s0 = 0 ∨ s0 = 1) ∧ post s0 M) : w_X9_isEnd_12 E D post px s0 M := by
  show Z E jX9_isEnd D 0 (zQi post px) 12 0 [zU] [.int s0] M
  obtain ⟨g2, h1⟩ := h
  exact z_iret dX9_isEnd_12 rfl (zbool g2) (by decide) h1
def w_X9_isSign_25 (E : zEv) (D : Nat) (post : Int32 → zM → Prop) (px : String → zM → Prop)   (M : zM) : Prop := Z E jX9_isSign D 0 (zQi post px) 25 0 [zU, zU] [] M
def w_X9_isSign_26 (E : zEv) (D : Nat) (post : Int32 → zM → Prop) (px : String → zM → Prop)  (s0 : Int32) (M : zM) : Prop := Z E jX9_isSign D 0 (zQi post px) 26 0 [zU, zU] [.int s0] M
theorem e_X9_isSign {E : zEv} {D : Nat} {post : Int32 → zM → Prop} {px : String → zM → Prop} {M : zM} {x1 : Int32}  (h : ((¬ (M.1 20 2) = (3 : Int32) → w_X9_isSign_25 E D post px  M) ∧ ((M.1 20 2) = (3 : Int32) → vp_in (M.1 20 3) 400 ∧ ((¬ (M.1 21 ((M.1 20 3)).toNatClampNeg) = x1 → w_X9_isSign_25 E D post px  M) ∧ ((M.1 21 ((M.1 20 3)).toNatClampNeg) = x1 → w_X9_isSign_26 E D post px (1 : Int32) M))))) : zCi E jX9_isSign D 0 [.ref 20, .int x1] M post px := by
  refine z_meth (by decide) (Nat.le_of_ble_eq_true rfl) ?_
  show Z E jX9_isSign D 0 (zQi post px) 0 0 [.ref 20, .int x1] [] M
  refine z_aload_n dX9_isSign_0 rfl ?_
  refine z_getI dX9_isSign_1 zg_X9_19 zs_20 rfl ?_
  refine z_iconst (v := (3 : Int32)) dX9_isSign_4 rfl ?_
  refine z_icmp_ne (tgt := 25) dX9_isSign_5 (by decide) (fun g1 => ?_) (fun g1 => ?_)
  · have h2 := h.1 g1
    refine z_weak [false, false] (ls' := [zU, zU]) rfl rfl ?_
    exact h2
  · have h3 := h.2 g1
    refine z_aload_n dX9_isSign_8 rfl ?_
    refine z_getR dX9_isSign_9 zg_X9_9 zs_20 rfl ?_
    refine z_aload_n dX9_isSign_12 rfl ?_
    refine z_getI dX9_isSign_13 zg_X9_22 zs_20 rfl ?_
    obtain ⟨g5, h4⟩ := h3
    refine z_iald dX9_isSign_16 zs_21 g5 ?_
    refine z_iload_n dX9_isSign_17 rfl ?_
    refine z_icmp_ne (tgt := 25) dX9_isSign_18 (by decide) (fun g6 => ?_) (fun g6 => ?_)
    · have h7 := h4.1 g6
      refine z_weak [false, false] (ls' := [zU, zU]) rfl rfl ?_
      exact h7
    · have h8 := h4.2 g6
      refine z_iconst (v := (1 : Int32)) dX9_isSign_21 rfl ?_
      refine z_goto (tgt := 26) dX9_isSign_22 (by decide) ?_
      refine z_weak [false, false] (ls' := [zU, zU]) rfl rfl ?_
      exact h8
theorem t_X9_isSign_25 {E : zEv} {D : Nat} {post : Int32 → zM → Prop} {px : String → zM → Prop} {M : zM}    (h : w_X9_isSign_26 E D post px (0 : Int32) M) : w_X9_isSign_25 E D post px  M := by
  show Z E jX9_isSign D 0 (zQi post px) 25 0 [zU, zU] [] M
  refine z_iconst (v := (0 : Int32)) dX9_isSign_25 rfl ?_
  exact h
theorem t_X9_isSign_26 {E : zEv} {D : Nat} {post : Int32 → zM → Prop} {px : String → zM → Prop} {M : zM}   {s0 : Int32} (h : (s0 = 0 ∨ s0 = 1) ∧ post s0 M) : w_X9_isSign_26 E D post px s0 M := by
  show Z E jX9_isSign D 0 (zQi post px) 26 0 [zU, zU] [.int s0] M
  obtain ⟨g2, h1⟩ := h
  exact z_iret dX9_isSign_26 rfl (zbool g2) (by decide) h1
def w_X9_isWord_24 (E : zEv) (D : Nat) (post : Int32 → zM → Prop) (px : String → zM → Prop) (w : Nat)  (M : zM) : Prop := Z E jX9_isWord (D + 1) 0 (zQi post px) 24 0 [zU, zU, zU] [] M
def w_X9_isWord_28 (E : zEv) (D : Nat) (post : Int32 → zM → Prop) (px : String → zM → Prop) (w : Nat) (y2 : Int32) (M : zM) : Prop := Z E jX9_isWord (D + 1) 0 (zQi post px) 28 0 [.ref 20, .ref (271 + w), .int y2] [] M
theorem e_X9_isWord {E : zEv} {D : Nat} {post : Int32 → zM → Prop} {px : String → zM → Prop} {M : zM} {w : Nat}  (h : ((¬ (M.1 20 2) = (1 : Int32) → w_X9_isWord_24 E D post px w M) ∧ ((M.1 20 2) = (1 : Int32) → w < zLitN ∧ zCi E jJ0_length_8abf5 D 0 [.ref (271 + w)] M (fun r8 M6 => ((((M.1 20 4) - (M.1 20 3)) = r8 → w_X9_isWord_28 E D post px w (0 : Int32) M6) ∧ (¬ ((M.1 20 4) - (M.1 20 3)) = r8 → w_X9_isWord_24 E D post px w M6))) px))) : zCi E jX9_isWord (D + 1) 0 [.ref 20, .ref (271 + w)] M post px := by
  refine z_meth (by decide) (Nat.le_of_ble_eq_true rfl) ?_
  show Z E jX9_isWord (D + 1) 0 (zQi post px) 0 0 [.ref 20, .ref (271 + w), zU] [] M
  refine z_aload_n dX9_isWord_0 rfl ?_
  refine z_getI dX9_isWord_1 zg_X9_19 zs_20 rfl ?_
  refine z_iconst (v := (1 : Int32)) dX9_isWord_4 rfl ?_
  refine z_icmp_ne (tgt := 24) dX9_isWord_5 (by decide) (fun g1 => ?_) (fun g1 => ?_)
  · have h2 := h.1 g1
    refine z_weak [false, false, false] (ls' := [zU, zU, zU]) rfl rfl ?_
    exact h2
  · have h3 := h.2 g1
    refine z_aload_n dX9_isWord_8 rfl ?_
    refine z_getI dX9_isWord_9 zg_X9_25 zs_20 rfl ?_
    refine z_aload_n dX9_isWord_12 rfl ?_
    refine z_getI dX9_isWord_13 zg_X9_22 zs_20 rfl ?_
    refine z_isub dX9_isWord_16 ?_
    refine z_aload_n dX9_isWord_17 rfl ?_
    obtain ⟨g5, h4⟩ := h3
    refine z_callStri (As := []) (st := [.int ((M.1 20 4) - (M.1 20 3))]) dX9_isWord_18 zi_X9_31 rfl rfl rfl g5 (Nat.le_of_ble_eq_true rfl) (by decide) (fun _ _ hx => hx) h4 ?_
    intro r8 M6 h7
    refine z_icmp_eq (tgt := 26) dX9_isWord_21 (by decide) (fun g9 => ?_) (fun g9 => ?_)
    · have h10 := h7.1 g9
      refine z_iconst (v := (0 : Int32)) dX9_isWord_26 rfl ?_
      refine z_istore_n dX9_isWord_27 (by decide) (ls' := [.ref 20, .ref (271 + w), .int (0 : Int32)]) rfl ?_
      exact h10
    · have h11 := h7.2 g9
      refine z_weak [false, false, false] (ls' := [zU, zU, zU]) rfl rfl ?_
      exact h11
theorem t_X9_isWord_24 {E : zEv} {D : Nat} {post : Int32 → zM → Prop} {px : String → zM → Prop} {M : zM} {w : Nat}   (h : post (0 : Int32) M) : w_X9_isWord_24 E D post px w M := by
  show Z E jX9_isWord (D + 1) 0 (zQi post px) 24 0 [zU, zU, zU] [] M
  refine z_iconst (v := (0 : Int32)) dX9_isWord_24 rfl ?_
  exact z_iret dX9_isWord_25 rfl (by decide) (by decide) h
theorem t_X9_isWord_28 {E : zEv} {D : Nat} {post : Int32 → zM → Prop} {px : String → zM → Prop} {M : zM} {w : Nat}  {y2 : Int32} (h : w < zLitN ∧ zCi E jJ0_length_8abf5 D 0 [.ref (271 + w)] M (fun r5 M3 => ((r5 ≤ y2 → post (1 : Int32) M3) ∧ (¬ r5 ≤ y2 → vp_in ((M3.1 20 3) + y2) 400 ∧ w < zLitN ∧ zCi E jJ0_charAt_5068e D 0 [.ref (271 + w), .int y2] M3 (fun r15 M13 => (((M3.1 21 (((M3.1 20 3) + y2)).toNatClampNeg) = r15 → w_X9_isWord_28 E D post px w (y2 + (1 : Int32)) M13) ∧ (¬ (M3.1 21 (((M3.1 20 3) + y2)).toNatClampNeg) = r15 → post (0 : Int32) M13))) px))) px) : w_X9_isWord_28 E D post px w y2 M := by
  show Z E jX9_isWord (D + 1) 0 (zQi post px) 28 0 [.ref 20, .ref (271 + w), .int y2] [] M
  refine z_iload_n dX9_isWord_28 rfl ?_
  refine z_aload_n dX9_isWord_29 rfl ?_
  obtain ⟨g2, h1⟩ := h
  refine z_callStri (As := []) (st := [.int y2]) dX9_isWord_30 zi_X9_31 rfl rfl rfl g2 (Nat.le_of_ble_eq_true rfl) (by decide) (fun _ _ hx => hx) h1 ?_
  intro r5 M3 h4
  refine z_icmp_ge (tgt := 63) dX9_isWord_33 (by decide) (fun g6 => ?_) (fun g6 => ?_)
  · have h7 := h4.1 g6
    refine z_iconst (v := (1 : Int32)) dX9_isWord_63 rfl ?_
    exact z_iret dX9_isWord_64 rfl (by decide) (by decide) h7
  · have h8 := h4.2 g6
    refine z_aload_n dX9_isWord_36 rfl ?_
    refine z_getR dX9_isWord_37 zg_X9_9 zs_20 rfl ?_
    refine z_aload_n dX9_isWord_40 rfl ?_
    refine z_getI dX9_isWord_41 zg_X9_22 zs_20 rfl ?_
    refine z_iload_n dX9_isWord_44 rfl ?_
    refine z_iadd dX9_isWord_45 ?_
    obtain ⟨g10, h9⟩ := h8
    refine z_iald dX9_isWord_46 zs_21 g10 ?_
    refine z_aload_n dX9_isWord_47 rfl ?_
    refine z_iload_n dX9_isWord_48 rfl ?_
    obtain ⟨g12, h11⟩ := h9
    refine z_callStri (As := [.int y2]) (st := [.int (M3.1 21 (((M3.1 20 3) + y2)).toNatClampNeg)]) dX9_isWord_49 zi_X9_37 rfl rfl rfl g12 (Nat.le_of_ble_eq_true rfl) (by decide) (fun _ _ hx => hx) h11 ?_
    intro r15 M13 h14
    refine z_icmp_eq (tgt := 57) dX9_isWord_52 (by decide) (fun g16 => ?_) (fun g16 => ?_)
    · have h17 := h14.1 g16
      refine z_iinc dX9_isWord_57 rfl (by decide) (ls' := [.ref 20, .ref (271 + w), .int (y2 + (1 : Int32))]) rfl ?_
      refine z_goto (tgt := 28) dX9_isWord_60 (by decide) ?_
      exact h17
    · have h18 := h14.2 g16
      refine z_iconst (v := (0 : Int32)) dX9_isWord_55 rfl ?_
      exact z_iret dX9_isWord_56 rfl (by decide) (by decide) h18
theorem e_X9_takeSign {E : zEv} {D : Nat} {post : Int32 → zM → Prop} {px : String → zM → Prop} {M : zM} {x1 : Int32}  (h : zCi E jX9_isSign D 0 [.ref 20, .int x1] M (fun r3 M1 => ((¬ r3 = 0 → zCv E jX9_advance D 0 [.ref 20] M1 (fun M7 => post (1 : Int32) M7) px) ∧ (r3 = 0 → post (0 : Int32) M1))) px) : zCi E jX9_takeSign (D + 1) 0 [.ref 20, .int x1] M post px := by
  refine z_meth (by decide) (Nat.le_of_ble_eq_true rfl) ?_
  show Z E jX9_takeSign (D + 1) 0 (zQi post px) 0 0 [.ref 20, .int x1] [] M
  refine z_aload_n dX9_takeSign_0 rfl ?_
  refine z_iload_n dX9_takeSign_1 rfl ?_
  refine z_callVi (As := [.int x1]) (st := []) dX9_takeSign_2 zi_X9_41 rfl rfl zs_20 rfl rfl (Nat.le_of_ble_eq_true rfl) (by decide) (fun _ _ hx => hx) h ?_
  intro r3 M1 h2
  refine z_if_ne (tgt := 10) dX9_takeSign_5 (by decide) (fun g4 => ?_) (fun g4 => ?_)
  · have h5 := h2.1 g4
    refine z_aload_n dX9_takeSign_10 rfl ?_
    refine z_callVv (As := []) (st := []) dX9_takeSign_11 zi_X9_28 rfl rfl zs_20 rfl rfl (Nat.le_of_ble_eq_true rfl) (by decide) (fun _ _ hx => hx) h5 ?_
    intro M7 h8
    refine z_iconst (v := (1 : Int32)) dX9_takeSign_14 rfl ?_
    exact z_iret dX9_takeSign_15 rfl (by decide) (by decide) h8
  · have h6 := h2.2 g4
    refine z_iconst (v := (0 : Int32)) dX9_takeSign_8 rfl ?_
    exact z_iret dX9_takeSign_9 rfl (by decide) (by decide) h6
theorem e_X9_takeWord {E : zEv} {D : Nat} {post : Int32 → zM → Prop} {px : String → zM → Prop} {M : zM} {w : Nat}  (h : zCi E jX9_isWord D 0 [.ref 20, .ref (271 + w)] M (fun r3 M1 => ((¬ r3 = 0 → zCv E jX9_advance D 0 [.ref 20] M1 (fun M7 => post (1 : Int32) M7) px) ∧ (r3 = 0 → post (0 : Int32) M1))) px) : zCi E jX9_takeWord (D + 1) 0 [.ref 20, .ref (271 + w)] M post px := by
  refine z_meth (by decide) (Nat.le_of_ble_eq_true rfl) ?_
  show Z E jX9_takeWord (D + 1) 0 (zQi post px) 0 0 [.ref 20, .ref (271 + w)] [] M
  refine z_aload_n dX9_takeWord_0 rfl ?_
  refine z_aload_n dX9_takeWord_1 rfl ?_
  refine z_callVi (As := [.ref (271 + w)]) (st := []) dX9_takeWord_2 zi_X9_45 rfl rfl zs_20 rfl rfl (Nat.le_of_ble_eq_true rfl) (by decide) (fun _ _ hx => hx) h ?_
  intro r3 M1 h2
  refine z_if_ne (tgt := 10) dX9_takeWord_5 (by decide) (fun g4 => ?_) (fun g4 => ?_)
  · have h5 := h2.1 g4
    refine z_aload_n dX9_takeWord_10 rfl ?_
    refine z_callVv (As := []) (st := []) dX9_takeWord_11 zi_X9_28 rfl rfl zs_20 rfl rfl (Nat.le_of_ble_eq_true rfl) (by decide) (fun _ _ hx => hx) h5 ?_
    intro M7 h8
    refine z_iconst (v := (1 : Int32)) dX9_takeWord_14 rfl ?_
    exact z_iret dX9_takeWord_15 rfl (by decide) (by decide) h8
  · have h6 := h2.2 g4
    refine z_iconst (v := (0 : Int32)) dX9_takeWord_8 rfl ?_
    exact z_iret dX9_takeWord_9 rfl (by decide) (by decide) h6
def w_X9_takeNumber_21 (E : zEv) (D : Nat) (post : Int32 → zM → Prop) (px : String → zM → Prop)   (M : zM) : Prop := Z E jX9_takeNumber (D + 1) 0 (zQi post px) 21 0 [zU, zU, zU, zU, zU] [] M
def w_X9_takeNumber_31 (E : zEv) (D : Nat) (post : Int32 → zM → Prop) (px : String → zM → Prop)  (y1 : Int32) (y2 : Int32) (y3 : Int32) (y4 : Int32) (M : zM) : Prop := Z E jX9_takeNumber (D + 1) 0 (zQi post px) 31 0 [.ref 20, .int y1, .int y2, .int y3, .int y4] [] M
def w_X9_takeNumber_72 (E : zEv) (D : Nat) (post : Int32 → zM → Prop) (px : String → zM → Prop)   (M : zM) : Prop := Z E jX9_takeNumber (D + 1) 0 (zQi post px) 72 0 [zU, zU, zU, zU, zU] [] M
theorem e_X9_takeNumber {E : zEv} {D : Nat} {post : Int32 → zM → Prop} {px : String → zM → Prop} {M : zM} {x1 : Int32} {x2 : Int32}  (h : ((¬ (M.1 20 2) = (2 : Int32) → w_X9_takeNumber_21 E D post px  M) ∧ ((M.1 20 2) = (2 : Int32) → ((((M.1 20 4) - (M.1 20 3)) ≤ (3 : Int32) → w_X9_takeNumber_31 E D post px x1 x2 (0 : Int32) (M.1 20 3) M) ∧ (¬ ((M.1 20 4) - (M.1 20 3)) ≤ (3 : Int32) → w_X9_takeNumber_21 E D post px  M))))) : zCi E jX9_takeNumber (D + 1) 0 [.ref 20, .int x1, .int x2] M post px := by
  refine z_meth (by decide) (Nat.le_of_ble_eq_true rfl) ?_
  show Z E jX9_takeNumber (D + 1) 0 (zQi post px) 0 0 [.ref 20, .int x1, .int x2, zU, zU] [] M
  refine z_aload_n dX9_takeNumber_0 rfl ?_
  refine z_getI dX9_takeNumber_1 zg_X9_19 zs_20 rfl ?_
  refine z_iconst (v := (2 : Int32)) dX9_takeNumber_4 rfl ?_
  refine z_icmp_ne (tgt := 21) dX9_takeNumber_5 (by decide) (fun g1 => ?_) (fun g1 => ?_)
  · have h2 := h.1 g1
    refine z_weak [false, false, false, false, false] (ls' := [zU, zU, zU, zU, zU]) rfl rfl ?_
    exact h2
  · have h3 := h.2 g1
    refine z_aload_n dX9_takeNumber_8 rfl ?_
    refine z_getI dX9_takeNumber_9 zg_X9_25 zs_20 rfl ?_
    refine z_aload_n dX9_takeNumber_12 rfl ?_
    refine z_getI dX9_takeNumber_13 zg_X9_22 zs_20 rfl ?_
    refine z_isub dX9_takeNumber_16 ?_
    refine z_iconst (v := (3 : Int32)) dX9_takeNumber_17 rfl ?_
    refine z_icmp_le (tgt := 23) dX9_takeNumber_18 (by decide) (fun g4 => ?_) (fun g4 => ?_)
    · have h5 := h3.1 g4
      refine z_iconst (v := (0 : Int32)) dX9_takeNumber_23 rfl ?_
      refine z_istore_n dX9_takeNumber_24 (by decide) (ls' := [.ref 20, .int x1, .int x2, .int (0 : Int32), zU]) rfl ?_
      refine z_aload_n dX9_takeNumber_25 rfl ?_
      refine z_getI dX9_takeNumber_26 zg_X9_22 zs_20 rfl ?_
      refine z_istore dX9_takeNumber_29 (by decide) (ls' := [.ref 20, .int x1, .int x2, .int (0 : Int32), .int (M.1 20 3)]) rfl ?_
      exact h5
    · have h6 := h3.2 g4
      refine z_weak [false, false, false, false, false] (ls' := [zU, zU, zU, zU, zU]) rfl rfl ?_
      exact h6
theorem t_X9_takeNumber_21 {E : zEv} {D : Nat} {post : Int32 → zM → Prop} {px : String → zM → Prop} {M : zM}    (h : post (-1 : Int32) M) : w_X9_takeNumber_21 E D post px  M := by
  show Z E jX9_takeNumber (D + 1) 0 (zQi post px) 21 0 [zU, zU, zU, zU, zU] [] M
  refine z_iconst (v := (-1 : Int32)) dX9_takeNumber_21 rfl ?_
  exact z_iret dX9_takeNumber_22 rfl rfl (by decide) h
theorem t_X9_takeNumber_31 {E : zEv} {D : Nat} {post : Int32 → zM → Prop} {px : String → zM → Prop} {M : zM}   {y1 : Int32} {y2 : Int32} {y3 : Int32} {y4 : Int32} (h : (((M.1 20 4) ≤ y4 → ((y3 < y1 → w_X9_takeNumber_72 E D post px  M) ∧ (¬ y3 < y1 → ((y3 ≤ y2 → zCv E jX9_advance D 0 [.ref 20] M (fun M10 => post y3 M10) px) ∧ (¬ y3 ≤ y2 → w_X9_takeNumber_72 E D post px  M))))) ∧ (¬ (M.1 20 4) ≤ y4 → vp_in y4 400 ∧ w_X9_takeNumber_31 E D post px y1 y2 ((((10 : Int32) * y3) + (M.1 21 (y4).toNatClampNeg)) - (48 : Int32)) (y4 + (1 : Int32)) M))) : w_X9_takeNumber_31 E D post px y1 y2 y3 y4 M := by
  show Z E jX9_takeNumber (D + 1) 0 (zQi post px) 31 0 [.ref 20, .int y1, .int y2, .int y3, .int y4] [] M
  refine z_iload dX9_takeNumber_31 rfl ?_
  refine z_aload_n dX9_takeNumber_33 rfl ?_
  refine z_getI dX9_takeNumber_34 zg_X9_25 zs_20 rfl ?_
  refine z_icmp_ge (tgt := 62) dX9_takeNumber_37 (by decide) (fun g1 => ?_) (fun g1 => ?_)
  · have h2 := h.1 g1
    refine z_iload_n dX9_takeNumber_62 rfl ?_
    refine z_iload_n dX9_takeNumber_63 rfl ?_
    refine z_icmp_lt (tgt := 72) dX9_takeNumber_64 (by decide) (fun g4 => ?_) (fun g4 => ?_)
    · have h5 := h2.1 g4
      refine z_weak [false, false, false, false, false] (ls' := [zU, zU, zU, zU, zU]) rfl rfl ?_
      exact h5
    · have h6 := h2.2 g4
      refine z_iload_n dX9_takeNumber_67 rfl ?_
      refine z_iload_n dX9_takeNumber_68 rfl ?_
      refine z_icmp_le (tgt := 74) dX9_takeNumber_69 (by decide) (fun g7 => ?_) (fun g7 => ?_)
      · have h8 := h6.1 g7
        refine z_aload_n dX9_takeNumber_74 rfl ?_
        refine z_callVv (As := []) (st := []) dX9_takeNumber_75 zi_X9_28 rfl rfl zs_20 rfl rfl (Nat.le_of_ble_eq_true rfl) (by decide) (fun _ _ hx => hx) h8 ?_
        intro M10 h11
        refine z_iload_n dX9_takeNumber_78 rfl ?_
        exact z_iret dX9_takeNumber_79 rfl rfl (by decide) h11
      · have h9 := h6.2 g7
        refine z_weak [false, false, false, false, false] (ls' := [zU, zU, zU, zU, zU]) rfl rfl ?_
        exact h9
  · have h3 := h.2 g1
    refine z_bipush (v := (10 : Int32)) dX9_takeNumber_40 rfl ?_
    refine z_iload_n dX9_takeNumber_42 rfl ?_
    refine z_imul dX9_takeNumber_43 ?_
    refine z_aload_n dX9_takeNumber_44 rfl ?_
    refine z_getR dX9_takeNumber_45 zg_X9_9 zs_20 rfl ?_
    refine z_iload dX9_takeNumber_48 rfl ?_
    obtain ⟨g13, h12⟩ := h3
    refine z_iald dX9_takeNumber_50 zs_21 g13 ?_
    refine z_iadd dX9_takeNumber_51 ?_
    refine z_bipush (v := (48 : Int32)) dX9_takeNumber_52 rfl ?_
    refine z_isub dX9_takeNumber_54 ?_
    refine z_istore_n dX9_takeNumber_55 (by decide) (ls' := [.ref 20, .int y1, .int y2, .int ((((10 : Int32) * y3) + (M.1 21 (y4).toNatClampNeg)) - (48 : Int32)), .int y4]) rfl ?_
    refine z_iinc dX9_takeNumber_56 rfl (by decide) (ls' := [.ref 20, .int y1, .int y2, .int ((((10 : Int32) * y3) + (M.1 21 (y4).toNatClampNeg)) - (48 : Int32)), .int (y4 + (1 : Int32))]) rfl ?_
    refine z_goto (tgt := 31) dX9_takeNumber_59 (by decide) ?_
    exact h12
theorem t_X9_takeNumber_72 {E : zEv} {D : Nat} {post : Int32 → zM → Prop} {px : String → zM → Prop} {M : zM}    (h : post (-1 : Int32) M) : w_X9_takeNumber_72 E D post px  M := by
  show Z E jX9_takeNumber (D + 1) 0 (zQi post px) 72 0 [zU, zU, zU, zU, zU] [] M
  refine z_iconst (v := (-1 : Int32)) dX9_takeNumber_72 rfl ?_
  exact z_iret dX9_takeNumber_73 rfl rfl (by decide) h
def w_X9_takeNumberAfter_18 (E : zEv) (D : Nat) (post : Int32 → zM → Prop) (px : String → zM → Prop) (w : Nat) (s0 : Int32) (M : zM) : Prop := Z E jX9_takeNumberAfter (D + 1) 0 (zQi post px) 18 0 [zU, zU, zU, zU] [.int s0] M
theorem e_X9_takeNumberAfter {E : zEv} {D : Nat} {post : Int32 → zM → Prop} {px : String → zM → Prop} {M : zM} {w : Nat} {x2 : Int32} {x3 : Int32}  (h : zCi E jX9_takeWord D 0 [.ref 20, .ref (271 + w)] M (fun r3 M1 => ((r3 = 0 → w_X9_takeNumberAfter_18 E D post px w (-1 : Int32) M1) ∧ (¬ r3 = 0 → zCi E jX9_takeNumber D 0 [.ref 20, .int x2, .int x3] M1 (fun r9 M7 => w_X9_takeNumberAfter_18 E D post px w r9 M7) px))) px) : zCi E jX9_takeNumberAfter (D + 1) 0 [.ref 20, .ref (271 + w), .int x2, .int x3] M post px := by
  refine z_meth (by decide) (Nat.le_of_ble_eq_true rfl) ?_
  show Z E jX9_takeNumberAfter (D + 1) 0 (zQi post px) 0 0 [.ref 20, .ref (271 + w), .int x2, .int x3] [] M
  refine z_aload_n dX9_takeNumberAfter_0 rfl ?_
  refine z_aload_n dX9_takeNumberAfter_1 rfl ?_
  refine z_callVi (As := [.ref (271 + w)]) (st := []) dX9_takeNumberAfter_2 zi_X9_49 rfl rfl zs_20 rfl rfl (Nat.le_of_ble_eq_true rfl) (by decide) (fun _ _ hx => hx) h ?_
  intro r3 M1 h2
  refine z_if_eq (tgt := 17) dX9_takeNumberAfter_5 (by decide) (fun g4 => ?_) (fun g4 => ?_)
  · have h5 := h2.1 g4
    refine z_iconst (v := (-1 : Int32)) dX9_takeNumberAfter_17 rfl ?_
    refine z_weak [false, false, false, false] (ls' := [zU, zU, zU, zU]) rfl rfl ?_
    exact h5
  · have h6 := h2.2 g4
    refine z_aload_n dX9_takeNumberAfter_8 rfl ?_
    refine z_iload_n dX9_takeNumberAfter_9 rfl ?_
    refine z_iload_n dX9_takeNumberAfter_10 rfl ?_
    refine z_callVi (As := [.int x2, .int x3]) (st := []) dX9_takeNumberAfter_11 zi_X9_52 rfl rfl zs_20 rfl rfl (Nat.le_of_ble_eq_true rfl) (by decide) (fun _ _ hx => hx) h6 ?_
    intro r9 M7 h8
    refine z_goto (tgt := 18) dX9_takeNumberAfter_14 (by decide) ?_
    refine z_weak [false, false, false, false] (ls' := [zU, zU, zU, zU]) rfl rfl ?_
    exact h8
theorem t_X9_takeNumberAfter_18 {E : zEv} {D : Nat} {post : Int32 → zM → Prop} {px : String → zM → Prop} {M : zM} {w : Nat}  {s0 : Int32} (h : post s0 M) : w_X9_takeNumberAfter_18 E D post px w s0 M := by
  show Z E jX9_takeNumberAfter (D + 1) 0 (zQi post px) 18 0 [zU, zU, zU, zU] [.int s0] M
  exact z_iret dX9_takeNumberAfter_18 rfl rfl (by decide) h
def w_X9_takeLetters_17 (E : zEv) (D : Nat) (post : Int32 → zM → Prop) (px : String → zM → Prop)  (y1 : Int32) (y2 : Int32) (y3 : Int32) (M : zM) : Prop := Z E jX9_takeLetters (D + 1) 0 (zQi post px) 17 0 [.ref 20, .int y1, .int y2, .int y3, zU] [] M
def w_X9_takeLetters_56 (E : zEv) (D : Nat) (post : Int32 → zM → Prop) (px : String → zM → Prop)   (M : zM) : Prop := Z E jX9_takeLetters (D + 1) 0 (zQi post px) 56 0 [zU, zU, zU, zU, zU] [] M
theorem e_X9_takeLetters {E : zEv} {D : Nat} {post : Int32 → zM → Prop} {px : String → zM → Prop} {M : zM} {x1 : Int32}  (h : (((M.1 20 2) = (1 : Int32) → w_X9_takeLetters_17 E D post px x1 (0 : Int32) (M.1 20 3) M) ∧ (¬ (M.1 20 2) = (1 : Int32) → post (-1 : Int32) M))) : zCi E jX9_takeLetters (D + 1) 0 [.ref 20, .int x1] M post px := by
  refine z_meth (by decide) (Nat.le_of_ble_eq_true rfl) ?_
  show Z E jX9_takeLetters (D + 1) 0 (zQi post px) 0 0 [.ref 20, .int x1, zU, zU, zU] [] M
  refine z_aload_n dX9_takeLetters_0 rfl ?_
  refine z_getI dX9_takeLetters_1 zg_X9_19 zs_20 rfl ?_
  refine z_iconst (v := (1 : Int32)) dX9_takeLetters_4 rfl ?_
  refine z_icmp_eq (tgt := 10) dX9_takeLetters_5 (by decide) (fun g1 => ?_) (fun g1 => ?_)
  · have h2 := h.1 g1
    refine z_iconst (v := (0 : Int32)) dX9_takeLetters_10 rfl ?_
    refine z_istore_n dX9_takeLetters_11 (by decide) (ls' := [.ref 20, .int x1, .int (0 : Int32), zU, zU]) rfl ?_
    refine z_aload_n dX9_takeLetters_12 rfl ?_
    refine z_getI dX9_takeLetters_13 zg_X9_22 zs_20 rfl ?_
    refine z_istore_n dX9_takeLetters_16 (by decide) (ls' := [.ref 20, .int x1, .int (0 : Int32), .int (M.1 20 3), zU]) rfl ?_
    exact h2
  · have h3 := h.2 g1
    refine z_iconst (v := (-1 : Int32)) dX9_takeLetters_8 rfl ?_
    exact z_iret dX9_takeLetters_9 rfl rfl (by decide) h3
theorem t_X9_takeLetters_17 {E : zEv} {D : Nat} {post : Int32 → zM → Prop} {px : String → zM → Prop} {M : zM}   {y1 : Int32} {y2 : Int32} {y3 : Int32} (h : (((M.1 20 4) ≤ y3 → zCv E jX9_advance D 0 [.ref 20] M (fun M4 => post y2 M4) px) ∧ (¬ (M.1 20 4) ≤ y3 → vp_in y3 400 ∧ ((((M.1 21 (y3).toNatClampNeg) - (97 : Int32)) < 0 → w_X9_takeLetters_56 E D post px  M) ∧ (¬ ((M.1 21 (y3).toNatClampNeg) - (97 : Int32)) < 0 → ((y1 ≤ ((M.1 21 (y3).toNatClampNeg) - (97 : Int32)) → w_X9_takeLetters_56 E D post px  M) ∧ (¬ y1 ≤ ((M.1 21 (y3).toNatClampNeg) - (97 : Int32)) → ((((y2 >>> (((M.1 21 (y3).toNatClampNeg) - (97 : Int32)) &&& 31)) &&& (1 : Int32)) = 0 → w_X9_takeLetters_17 E D post px y1 (y2 ||| ((1 : Int32) <<< (((M.1 21 (y3).toNatClampNeg) - (97 : Int32)) &&& 31))) (y3 + (1 : Int32)) M) ∧ (¬ ((y2 >>> (((M.1 21 (y3).toNatClampNeg) - (97 : Int32)) &&& 31)) &&& (1 : Int32)) = 0 → w_X9_takeLetters_56 E D post px  M))))))))) : w_X9_takeLetters_17 E D post px y1 y2 y3 M := by
  show Z E jX9_takeLetters (D + 1) 0 (zQi post px) 17 0 [.ref 20, .int y1, .int y2, .int y3, zU] [] M
  refine z_iload_n dX9_takeLetters_17 rfl ?_
  refine z_aload_n dX9_takeLetters_18 rfl ?_
  refine z_getI dX9_takeLetters_19 zg_X9_25 zs_20 rfl ?_
  refine z_icmp_ge (tgt := 71) dX9_takeLetters_22 (by decide) (fun g1 => ?_) (fun g1 => ?_)
  · have h2 := h.1 g1
    refine z_aload_n dX9_takeLetters_71 rfl ?_
    refine z_callVv (As := []) (st := []) dX9_takeLetters_72 zi_X9_28 rfl rfl zs_20 rfl rfl (Nat.le_of_ble_eq_true rfl) (by decide) (fun _ _ hx => hx) h2 ?_
    intro M4 h5
    refine z_iload_n dX9_takeLetters_75 rfl ?_
    exact z_iret dX9_takeLetters_76 rfl rfl (by decide) h5
  · have h3 := h.2 g1
    refine z_aload_n dX9_takeLetters_25 rfl ?_
    refine z_getR dX9_takeLetters_26 zg_X9_9 zs_20 rfl ?_
    refine z_iload_n dX9_takeLetters_29 rfl ?_
    obtain ⟨g7, h6⟩ := h3
    refine z_iald dX9_takeLetters_30 zs_21 g7 ?_
    refine z_bipush (v := (97 : Int32)) dX9_takeLetters_31 rfl ?_
    refine z_isub dX9_takeLetters_33 ?_
    refine z_istore dX9_takeLetters_34 (by decide) (ls' := [.ref 20, .int y1, .int y2, .int y3, .int ((M.1 21 (y3).toNatClampNeg) - (97 : Int32))]) rfl ?_
    refine z_iload dX9_takeLetters_36 rfl ?_
    refine z_if_lt (tgt := 56) dX9_takeLetters_38 (by decide) (fun g8 => ?_) (fun g8 => ?_)
    · have h9 := h6.1 g8
      refine z_weak [false, false, false, false, false] (ls' := [zU, zU, zU, zU, zU]) rfl rfl ?_
      exact h9
    · have h10 := h6.2 g8
      refine z_iload dX9_takeLetters_41 rfl ?_
      refine z_iload_n dX9_takeLetters_43 rfl ?_
      refine z_icmp_ge (tgt := 56) dX9_takeLetters_44 (by decide) (fun g11 => ?_) (fun g11 => ?_)
      · have h12 := h10.1 g11
        refine z_weak [false, false, false, false, false] (ls' := [zU, zU, zU, zU, zU]) rfl rfl ?_
        exact h12
      · have h13 := h10.2 g11
        refine z_iload_n dX9_takeLetters_47 rfl ?_
        refine z_iload dX9_takeLetters_48 rfl ?_
        refine z_ishr dX9_takeLetters_50 ?_
        refine z_iconst (v := (1 : Int32)) dX9_takeLetters_51 rfl ?_
        refine z_iand dX9_takeLetters_52 ?_
        refine z_if_eq (tgt := 58) dX9_takeLetters_53 (by decide) (fun g14 => ?_) (fun g14 => ?_)
        · have h15 := h13.1 g14
          refine z_iload_n dX9_takeLetters_58 rfl ?_
          refine z_iconst (v := (1 : Int32)) dX9_takeLetters_59 rfl ?_
          refine z_iload dX9_takeLetters_60 rfl ?_
          refine z_ishl dX9_takeLetters_62 ?_
          refine z_ior dX9_takeLetters_63 ?_
          refine z_istore_n dX9_takeLetters_64 (by decide) (ls' := [.ref 20, .int y1, .int (y2 ||| ((1 : Int32) <<< (((M.1 21 (y3).toNatClampNeg) - (97 : Int32)) &&& 31))), .int y3, .int ((M.1 21 (y3).toNatClampNeg) - (97 : Int32))]) rfl ?_
          refine z_iinc dX9_takeLetters_65 rfl (by decide) (ls' := [.ref 20, .int y1, .int (y2 ||| ((1 : Int32) <<< (((M.1 21 (y3).toNatClampNeg) - (97 : Int32)) &&& 31))), .int (y3 + (1 : Int32)), .int ((M.1 21 (y3).toNatClampNeg) - (97 : Int32))]) rfl ?_
          refine z_goto (tgt := 17) dX9_takeLetters_68 (by decide) ?_
          refine z_weak [true, true, true, true, false] (ls' := [.ref 20, .int y1, .int (y2 ||| ((1 : Int32) <<< (((M.1 21 (y3).toNatClampNeg) - (97 : Int32)) &&& 31))), .int (y3 + (1 : Int32)), zU]) rfl rfl ?_
          exact h15
        · have h16 := h13.2 g14
          refine z_weak [false, false, false, false, false] (ls' := [zU, zU, zU, zU, zU]) rfl rfl ?_
          exact h16
theorem t_X9_takeLetters_56 {E : zEv} {D : Nat} {post : Int32 → zM → Prop} {px : String → zM → Prop} {M : zM}    (h : post (-1 : Int32) M) : w_X9_takeLetters_56 E D post px  M := by
  show Z E jX9_takeLetters (D + 1) 0 (zQi post px) 56 0 [zU, zU, zU, zU, zU] [] M
  refine z_iconst (v := (-1 : Int32)) dX9_takeLetters_56 rfl ?_
  exact z_iret dX9_takeLetters_57 rfl rfl (by decide) h
