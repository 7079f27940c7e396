theorem e_X12_thrown {E : zEv} {D : Nat} {post : Int32 → zM → Prop} {px : String → zM → Prop} {M : zM}   (h : post (M.1 0 0) M) : zCi E jX12_thrown D 0 [.ref 0] M post px := by
  refine z_meth (by decide) (Nat.le_of_ble_eq_true rfl) ?_
  show Z E jX12_thrown D 0 (zQi post px) 0 0 [.ref 0] [] M
  refine z_aload_n dX12_thrown_0 rfl ?_
  refine z_getI dX12_thrown_1 zg_X12_3 zs_0 rfl ?_
  exact z_iret dX12_thrown_4 rfl rfl (by decide) h
def w_X12_throwsIf_9 (E : zEv) (D : Nat) (post : Int32 → zM → Prop) (px : String → zM → Prop)  (y1 : Int32) (M : zM) : Prop := Z E jX12_throwsIf D 0 (zQi post px) 9 0 [zU, .int y1, zU] [] M
theorem e_X12_throwsIf {E : zEv} {D : Nat} {post : Int32 → zM → Prop} {px : String → zM → Prop} {M : zM} {x1 : Int32} {x2 : Int32}  (h : ((x1 = 0 → w_X12_throwsIf_9 E D post px x1 M) ∧ (¬ x1 = 0 → ∀ M4 : zM, M4 = zup M 0 0 x2 → w_X12_throwsIf_9 E D post px x1 M4))) : zCi E jX12_throwsIf D 0 [.ref 0, .int x1, .int x2] M post px := by
  refine z_meth (by decide) (Nat.le_of_ble_eq_true rfl) ?_
  show Z E jX12_throwsIf D 0 (zQi post px) 0 0 [.ref 0, .int x1, .int x2] [] M
  refine z_iload_n dX12_throwsIf_0 rfl ?_
  refine z_if_eq (tgt := 9) dX12_throwsIf_1 (by decide) (fun g1 => ?_) (fun g1 => ?_)
  · have h2 := h.1 g1
    refine z_weak [false, true, false] (ls' := [zU, .int x1, zU]) rfl rfl ?_
    exact h2
  · have h3 := h.2 g1
    refine z_aload_n dX12_throwsIf_4 rfl ?_
    refine z_iload_n dX12_throwsIf_5 rfl ?_
    refine z_putI dX12_throwsIf_6 zp_X12_3 zs_0 rfl rfl rfl ?_
    generalize hhM4 : zup M 0 0 x2 = M4
    have h5 := h3 M4 hhM4.symm
    refine z_weak [false, true, false] (ls' := [zU, .int x1, zU]) rfl rfl ?_
    exact h5
theorem t_X12_throwsIf_9 {E : zEv} {D : Nat} {post : Int32 → zM → Prop} {px : String → zM → Prop} {M : zM}   {y1 : Int32} (h : (y1 = 0 ∨ y1 = 1) ∧ post y1 M) : w_X12_throwsIf_9 E D post px y1 M := by
  show Z E jX12_throwsIf D 0 (zQi post px) 9 0 [zU, .int y1, zU] [] M
  refine z_iload_n dX12_throwsIf_9 rfl ?_
  obtain ⟨g2, h1⟩ := h
  exact z_iret dX12_throwsIf_10 rfl (zbool g2) (by decide) h1
def w_X12_in_14 (E : zEv) (D : Nat) (post : Int32 → zM → Prop) (px : String → zM → Prop)   (M : zM) : Prop := Z E jX12_in D 0 (zQi post px) 14 0 [zU, zU, zU] [] M
def w_X12_in_15 (E : zEv) (D : Nat) (post : Int32 → zM → Prop) (px : String → zM → Prop)  (s0 : Int32) (M : zM) : Prop := Z E jX12_in D 0 (zQi post px) 15 0 [zU, zU, zU] [.int s0] M
theorem e_X12_in {E : zEv} {D : Nat} {post : Int32 → zM → Prop} {px : String → zM → Prop} {M : zM} {x1 : Int32} {x2 : Int32} {x3 : Int32}  (h : ((x1 < x2 → w_X12_in_14 E D post px  M) ∧ (¬ x1 < x2 → ((x3 < x1 → w_X12_in_14 E D post px  M) ∧ (¬ x3 < x1 → w_X12_in_15 E D post px (1 : Int32) M))))) : zCi E jX12_in D 0 [.int x1, .int x2, .int x3] M post px := by
  refine z_meth (by decide) (Nat.le_of_ble_eq_true rfl) ?_
  show Z E jX12_in D 0 (zQi post px) 0 0 [.int x1, .int x2, .int x3] [] M
  refine z_iload_n dX12_in_0 rfl ?_
  refine z_iload_n dX12_in_1 rfl ?_
  refine z_icmp_lt (tgt := 14) dX12_in_2 (by decide) (fun g1 => ?_) (fun g1 => ?_)
  · have h2 := h.1 g1
    refine z_weak [false, false, false] (ls' := [zU, zU, zU]) rfl rfl ?_
    exact h2
  · have h3 := h.2 g1
    refine z_iload_n dX12_in_5 rfl ?_
    refine z_iload_n dX12_in_6 rfl ?_
    refine z_icmp_gt (tgt := 14) dX12_in_7 (by decide) (fun g4 => ?_) (fun g4 => ?_)
    · have h5 := h3.1 g4
      refine z_weak [false, false, false] (ls' := [zU, zU, zU]) rfl rfl ?_
      exact h5
    · have h6 := h3.2 g4
      refine z_iconst (v := (1 : Int32)) dX12_in_10 rfl ?_
      refine z_goto (tgt := 15) dX12_in_11 (by decide) ?_
      refine z_weak [false, false, false] (ls' := [zU, zU, zU]) rfl rfl ?_
      exact h6
theorem t_X12_in_14 {E : zEv} {D : Nat} {post : Int32 → zM → Prop} {px : String → zM → Prop} {M : zM}    (h : w_X12_in_15 E D post px (0 : Int32) M) : w_X12_in_14 E D post px  M := by
  show Z E jX12_in D 0 (zQi post px) 14 0 [zU, zU, zU] [] M
  refine z_iconst (v := (0 : Int32)) dX12_in_14 rfl ?_
  exact h
theorem t_X12_in_15 {E : zEv} {D : Nat} {post : Int32 → zM → Prop} {px : String → zM → Prop} {M : zM}   {s0 : Int32} (h : (s0 = 0 ∨ s0 = 1) ∧ post s0 M) : w_X12_in_15 E D post px s0 M := by
  show Z E jX12_in D 0 (zQi post px) 15 0 [zU, zU, zU] [.int s0] M
  obtain ⟨g2, h1⟩ := h
  exact z_iret dX12_in_15 rfl (zbool g2) (by decide) h1
def w_X12_has_14 (E : zEv) (D : Nat) (post : Int32 → zM → Prop) (px : String → zM → Prop)  (s0 : Int32) (M : zM) : Prop := Z E jX12_has D 0 (zQi post px) 14 0 [zU, zU] [.int s0] M
theorem e_X12_has {E : zEv} {D : Nat} {post : Int32 → zM → Prop} {px : String → zM → Prop} {M : zM} {x1 : Int32} {x2 : Int32}  (h : ((¬ ((x1 >>> (x2 &&& 31)) &&& (1 : Int32)) = (1 : Int32) → w_X12_has_14 E D post px (0 : Int32) M) ∧ (((x1 >>> (x2 &&& 31)) &&& (1 : Int32)) = (1 : Int32) → w_X12_has_14 E D post px (1 : Int32) M))) : zCi E jX12_has D 0 [.int x1, .int x2] M post px := by
  refine z_meth (by decide) (Nat.le_of_ble_eq_true rfl) ?_
  show Z E jX12_has D 0 (zQi post px) 0 0 [.int x1, .int x2] [] M
  refine z_iload_n dX12_has_0 rfl ?_
  refine z_iload_n dX12_has_1 rfl ?_
  refine z_ishr dX12_has_2 ?_
  refine z_iconst (v := (1 : Int32)) dX12_has_3 rfl ?_
  refine z_iand dX12_has_4 ?_
  refine z_iconst (v := (1 : Int32)) dX12_has_5 rfl ?_
  refine z_icmp_ne (tgt := 13) dX12_has_6 (by decide) (fun g1 => ?_) (fun g1 => ?_)
  · have h2 := h.1 g1
    refine z_iconst (v := (0 : Int32)) dX12_has_13 rfl ?_
    refine z_weak [false, false] (ls' := [zU, zU]) rfl rfl ?_
    exact h2
  · have h3 := h.2 g1
    refine z_iconst (v := (1 : Int32)) dX12_has_9 rfl ?_
    refine z_goto (tgt := 14) dX12_has_10 (by decide) ?_
    refine z_weak [false, false] (ls' := [zU, zU]) rfl rfl ?_
    exact h3
theorem t_X12_has_14 {E : zEv} {D : Nat} {post : Int32 → zM → Prop} {px : String → zM → Prop} {M : zM}   {s0 : Int32} (h : (s0 = 0 ∨ s0 = 1) ∧ post s0 M) : w_X12_has_14 E D post px s0 M := by
  show Z E jX12_has D 0 (zQi post px) 14 0 [zU, zU] [.int s0] M
  obtain ⟨g2, h1⟩ := h
  exact z_iret dX12_has_14 rfl (zbool g2) (by decide) h1
def w_X12_image_7 (E : zEv) (D : Nat) (post : zM → Prop) (px : String → zM → Prop)  (y1 : Int32) (M : zM) : Prop := Z E jX12_image D 0 (zQv post px) 7 0 [.ref 0, .int y1] [] M
theorem e_X12_image {E : zEv} {D : Nat} {post : zM → Prop} {px : String → zM → Prop} {M : zM}   (h : ∀ M1 : zM, M1 = zup M 0 0 (0 : Int32) → w_X12_image_7 E D post px (0 : Int32) M1) : zCv E jX12_image D 0 [.ref 0] M post px := by
  refine z_meth (by decide) (Nat.le_of_ble_eq_true rfl) ?_
  show Z E jX12_image D 0 (zQv post px) 0 0 [.ref 0, zU] [] M
  refine z_aload_n dX12_image_0 rfl ?_
  refine z_iconst (v := (0 : Int32)) dX12_image_1 rfl ?_
  refine z_putI dX12_image_2 zp_X12_3 zs_0 rfl rfl rfl ?_
  generalize hhM1 : zup M 0 0 (0 : Int32) = M1
  have h2 := h M1 hhM1.symm
  refine z_iconst (v := (0 : Int32)) dX12_image_5 rfl ?_
  refine z_istore_n dX12_image_6 (by decide) (ls' := [.ref 0, .int (0 : Int32)]) rfl ?_
  exact h2
theorem t_X12_image_7 {E : zEv} {D : Nat} {post : zM → Prop} {px : String → zM → Prop} {M : zM}   {y1 : Int32} (h : (((1221 : Int32) ≤ y1 → ∀ M4 : zM, M4 = zup M 0 6 (1 : Int32) → post M4) ∧ (¬ (1221 : Int32) ≤ y1 → vp_in y1 2070 ∧ vp_in y1 1221 ∧ ∀ M10 : zM, M10 = zup M 2 (y1).toNatClampNeg (M.1 1 (y1).toNatClampNeg) → w_X12_image_7 E D post px (y1 + (1 : Int32)) M10))) : w_X12_image_7 E D post px y1 M := by
  show Z E jX12_image D 0 (zQv post px) 7 0 [.ref 0, .int y1] [] M
  refine z_iload_n dX12_image_7 rfl ?_
  refine z_sipush (v := (1221 : Int32)) dX12_image_8 rfl ?_
  refine z_icmp_ge (tgt := 32) dX12_image_11 (by decide) (fun g1 => ?_) (fun g1 => ?_)
  · have h2 := h.1 g1
    refine z_aload_n dX12_image_32 rfl ?_
    refine z_iconst (v := (1 : Int32)) dX12_image_33 rfl ?_
    refine z_putI dX12_image_34 zp_X12_71 zs_0 rfl (by decide) rfl ?_
    generalize hhM4 : zup M 0 6 (1 : Int32) = M4
    have h5 := h2 M4 hhM4.symm
    exact z_vret dX12_image_37 rfl (by decide) h5
  · have h3 := h.2 g1
    refine z_aload_n dX12_image_14 rfl ?_
    refine z_getR dX12_image_15 zg_X12_17 zs_0 rfl ?_
    refine z_iload_n dX12_image_18 rfl ?_
    refine z_aload_n dX12_image_19 rfl ?_
    refine z_getR dX12_image_20 zg_X12_13 zs_0 rfl ?_
    refine z_iload_n dX12_image_23 rfl ?_
    obtain ⟨g7, h6⟩ := h3
    refine z_iald dX12_image_24 zs_1 g7 ?_
    obtain ⟨g9, h8⟩ := h6
    refine z_iast dX12_image_25 zs_2 g9 ?_
    generalize hhM10 : zup M 2 (y1).toNatClampNeg (M.1 1 (y1).toNatClampNeg) = M10
    have h11 := h8 M10 hhM10.symm
    refine z_iinc dX12_image_26 rfl (by decide) (ls' := [.ref 0, .int (y1 + (1 : Int32))]) rfl ?_
    refine z_goto (tgt := 7) dX12_image_29 (by decide) ?_
    exact h11
def w_X12_back_16 (E : zEv) (D : Nat) (post : Int32 → zM → Prop) (px : String → zM → Prop)  (y1 : Int32) (M : zM) : Prop := Z E jX12_back D 0 (zQi post px) 16 0 [.ref 0, .int y1] [] M
theorem e_X12_back {E : zEv} {D : Nat} {post : Int32 → zM → Prop} {px : String → zM → Prop} {M : zM}   (h : ∀ M1 : zM, M1 = zup M 0 0 (0 : Int32) → ((¬ (M1.1 0 6) = 0 → w_X12_back_16 E D post px (0 : Int32) M1) ∧ ((M1.1 0 6) = 0 → post (0 : Int32) M1))) : zCi E jX12_back D 0 [.ref 0] M post px := by
  refine z_meth (by decide) (Nat.le_of_ble_eq_true rfl) ?_
  show Z E jX12_back D 0 (zQi post px) 0 0 [.ref 0, zU] [] M
  refine z_aload_n dX12_back_0 rfl ?_
  refine z_iconst (v := (0 : Int32)) dX12_back_1 rfl ?_
  refine z_putI dX12_back_2 zp_X12_3 zs_0 rfl rfl rfl ?_
  generalize hhM1 : zup M 0 0 (0 : Int32) = M1
  have h2 := h M1 hhM1.symm
  refine z_aload_n dX12_back_5 rfl ?_
  refine z_getI dX12_back_6 zg_X12_71 zs_0 rfl ?_
  refine z_if_ne (tgt := 14) dX12_back_9 (by decide) (fun g3 => ?_) (fun g3 => ?_)
  · have h4 := h2.1 g3
    refine z_iconst (v := (0 : Int32)) dX12_back_14 rfl ?_
    refine z_istore_n dX12_back_15 (by decide) (ls' := [.ref 0, .int (0 : Int32)]) rfl ?_
    exact h4
  · have h5 := h2.2 g3
    refine z_iconst (v := (0 : Int32)) dX12_back_12 rfl ?_
    exact z_iret dX12_back_13 rfl (by decide) (by decide) h5
theorem t_X12_back_16 {E : zEv} {D : Nat} {post : Int32 → zM → Prop} {px : String → zM → Prop} {M : zM}   {y1 : Int32} (h : (((1221 : Int32) ≤ y1 → ∀ M4 : zM, M4 = zup M 0 7 (0 : Int32) → post (1 : Int32) M4) ∧ (¬ (1221 : Int32) ≤ y1 → vp_in y1 1221 ∧ vp_in y1 2070 ∧ ∀ M10 : zM, M10 = zup M 1 (y1).toNatClampNeg (M.1 2 (y1).toNatClampNeg) → w_X12_back_16 E D post px (y1 + (1 : Int32)) M10))) : w_X12_back_16 E D post px y1 M := by
  show Z E jX12_back D 0 (zQi post px) 16 0 [.ref 0, .int y1] [] M
  refine z_iload_n dX12_back_16 rfl ?_
  refine z_sipush (v := (1221 : Int32)) dX12_back_17 rfl ?_
  refine z_icmp_ge (tgt := 41) dX12_back_20 (by decide) (fun g1 => ?_) (fun g1 => ?_)
  · have h2 := h.1 g1
    refine z_aload_n dX12_back_41 rfl ?_
    refine z_iconst (v := (0 : Int32)) dX12_back_42 rfl ?_
    refine z_putI dX12_back_43 zp_X12_75 zs_0 rfl rfl rfl ?_
    generalize hhM4 : zup M 0 7 (0 : Int32) = M4
    have h5 := h2 M4 hhM4.symm
    refine z_iconst (v := (1 : Int32)) dX12_back_46 rfl ?_
    exact z_iret dX12_back_47 rfl (by decide) (by decide) h5
  · have h3 := h.2 g1
    refine z_aload_n dX12_back_23 rfl ?_
    refine z_getR dX12_back_24 zg_X12_13 zs_0 rfl ?_
    refine z_iload_n dX12_back_27 rfl ?_
    refine z_aload_n dX12_back_28 rfl ?_
    refine z_getR dX12_back_29 zg_X12_17 zs_0 rfl ?_
    refine z_iload_n dX12_back_32 rfl ?_
    obtain ⟨g7, h6⟩ := h3
    refine z_iald dX12_back_33 zs_2 g7 ?_
    obtain ⟨g9, h8⟩ := h6
    refine z_iast dX12_back_34 zs_1 g9 ?_
    generalize hhM10 : zup M 1 (y1).toNatClampNeg (M.1 2 (y1).toNatClampNeg) = M10
    have h11 := h8 M10 hhM10.symm
    refine z_iinc dX12_back_35 rfl (by decide) (ls' := [.ref 0, .int (y1 + (1 : Int32))]) rfl ?_
    refine z_goto (tgt := 16) dX12_back_38 (by decide) ?_
    exact h11
def w_X12_remembers_53 (E : zEv) (D : Nat) (post : zM → Prop) (px : String → zM → Prop)   (M : zM) : Prop := Z E jX12_remembers D 0 (zQv post px) 53 0 [.ref 0, zU] [] M
def w_X12_remembers_11 (E : zEv) (D : Nat) (post : zM → Prop) (px : String → zM → Prop)  (y1 : Int32) (M : zM) : Prop := Z E jX12_remembers D 0 (zQv post px) 11 0 [.ref 0, .int y1] [] M
def w_X12_remembers_55 (E : zEv) (D : Nat) (post : zM → Prop) (px : String → zM → Prop)  (y1 : Int32) (M : zM) : Prop := Z E jX12_remembers D 0 (zQv post px) 55 0 [.ref 0, .int y1] [] M
theorem e_X12_remembers {E : zEv} {D : Nat} {post : zM → Prop} {px : String → zM → Prop} {M : zM}   (h : ((¬ (M.1 0 7) = (12 : Int32) → ∀ M4 : zM, M4 = zup M 0 7 ((M.1 0 7) + (1 : Int32)) → w_X12_remembers_53 E D post px  M4) ∧ ((M.1 0 7) = (12 : Int32) → w_X12_remembers_11 E D post px (0 : Int32) M))) : zCv E jX12_remembers D 0 [.ref 0] M post px := by
  refine z_meth (by decide) (Nat.le_of_ble_eq_true rfl) ?_
  show Z E jX12_remembers D 0 (zQv post px) 0 0 [.ref 0, zU] [] M
  refine z_aload_n dX12_remembers_0 rfl ?_
  refine z_getI dX12_remembers_1 zg_X12_75 zs_0 rfl ?_
  refine z_bipush (v := (12 : Int32)) dX12_remembers_4 rfl ?_
  refine z_icmp_ne (tgt := 43) dX12_remembers_6 (by decide) (fun g1 => ?_) (fun g1 => ?_)
  · have h2 := h.1 g1
    refine z_aload_n dX12_remembers_43 rfl ?_
    refine z_dup dX12_remembers_44 rfl ?_
    refine z_getI dX12_remembers_45 zg_X12_75 zs_0 rfl ?_
    refine z_iconst (v := (1 : Int32)) dX12_remembers_48 rfl ?_
    refine z_iadd dX12_remembers_49 ?_
    refine z_putI dX12_remembers_50 zp_X12_75 zs_0 rfl rfl rfl ?_
    generalize hhM4 : zup M 0 7 ((M.1 0 7) + (1 : Int32)) = M4
    have h5 := h2 M4 hhM4.symm
    exact h5
  · have h3 := h.2 g1
    refine z_iconst (v := (0 : Int32)) dX12_remembers_9 rfl ?_
    refine z_istore_n dX12_remembers_10 (by decide) (ls' := [.ref 0, .int (0 : Int32)]) rfl ?_
    exact h3
theorem t_X12_remembers_53 {E : zEv} {D : Nat} {post : zM → Prop} {px : String → zM → Prop} {M : zM}    (h : w_X12_remembers_55 E D post px (0 : Int32) M) : w_X12_remembers_53 E D post px  M := by
  show Z E jX12_remembers D 0 (zQv post px) 53 0 [.ref 0, zU] [] M
  refine z_iconst (v := (0 : Int32)) dX12_remembers_53 rfl ?_
  refine z_istore_n dX12_remembers_54 (by decide) (ls' := [.ref 0, .int (0 : Int32)]) rfl ?_
  exact h
theorem t_X12_remembers_11 {E : zEv} {D : Nat} {post : zM → Prop} {px : String → zM → Prop} {M : zM}   {y1 : Int32} (h : (((4092 : Int32) ≤ y1 → w_X12_remembers_53 E D post px  M) ∧ (¬ (4092 : Int32) ≤ y1 → vp_in (y1 + (372 : Int32)) 4464 ∧ vp_in y1 4464 ∧ ∀ M8 : zM, M8 = zup M 5 (y1).toNatClampNeg (M.1 5 ((y1 + (372 : Int32))).toNatClampNeg) → w_X12_remembers_11 E D post px (y1 + (1 : Int32)) M8))) : w_X12_remembers_11 E D post px y1 M := by
  show Z E jX12_remembers D 0 (zQv post px) 11 0 [.ref 0, .int y1] [] M
  refine z_iload_n dX12_remembers_11 rfl ?_
  refine z_sipush (v := (4092 : Int32)) dX12_remembers_12 rfl ?_
  refine z_icmp_ge (tgt := 40) dX12_remembers_15 (by decide) (fun g1 => ?_) (fun g1 => ?_)
  · have h2 := h.1 g1
    refine z_goto (tgt := 53) dX12_remembers_40 (by decide) ?_
    refine z_weak [true, false] (ls' := [.ref 0, zU]) rfl rfl ?_
    exact h2
  · have h3 := h.2 g1
    refine z_aload_n dX12_remembers_18 rfl ?_
    refine z_getR dX12_remembers_19 zg_X12_26 zs_0 rfl ?_
    refine z_iload_n dX12_remembers_22 rfl ?_
    refine z_aload_n dX12_remembers_23 rfl ?_
    refine z_getR dX12_remembers_24 zg_X12_26 zs_0 rfl ?_
    refine z_iload_n dX12_remembers_27 rfl ?_
    refine z_sipush (v := (372 : Int32)) dX12_remembers_28 rfl ?_
    refine z_iadd dX12_remembers_31 ?_
    obtain ⟨g5, h4⟩ := h3
    refine z_iald dX12_remembers_32 zs_5 g5 ?_
    obtain ⟨g7, h6⟩ := h4
    refine z_iast dX12_remembers_33 zs_5 g7 ?_
    generalize hhM8 : zup M 5 (y1).toNatClampNeg (M.1 5 ((y1 + (372 : Int32))).toNatClampNeg) = M8
    have h9 := h6 M8 hhM8.symm
    refine z_iinc dX12_remembers_34 rfl (by decide) (ls' := [.ref 0, .int (y1 + (1 : Int32))]) rfl ?_
    refine z_goto (tgt := 11) dX12_remembers_37 (by decide) ?_
    exact h9
theorem t_X12_remembers_55 {E : zEv} {D : Nat} {post : zM → Prop} {px : String → zM → Prop} {M : zM}   {y1 : Int32} (h : (((372 : Int32) ≤ y1 → post M) ∧ (¬ (372 : Int32) ≤ y1 → vp_in y1 2070 ∧ vp_in (((372 : Int32) * ((M.1 0 7) - (1 : Int32))) + y1) 4464 ∧ ∀ M8 : zM, M8 = zup M 5 ((((372 : Int32) * ((M.1 0 7) - (1 : Int32))) + y1)).toNatClampNeg (M.1 1 (y1).toNatClampNeg) → w_X12_remembers_55 E D post px (y1 + (1 : Int32)) M8))) : w_X12_remembers_55 E D post px y1 M := by
  show Z E jX12_remembers D 0 (zQv post px) 55 0 [.ref 0, .int y1] [] M
  refine z_iload_n dX12_remembers_55 rfl ?_
  refine z_sipush (v := (372 : Int32)) dX12_remembers_56 rfl ?_
  refine z_icmp_ge (tgt := 91) dX12_remembers_59 (by decide) (fun g1 => ?_) (fun g1 => ?_)
  · have h2 := h.1 g1
    exact z_vret dX12_remembers_91 rfl (by decide) h2
  · have h3 := h.2 g1
    refine z_aload_n dX12_remembers_62 rfl ?_
    refine z_getR dX12_remembers_63 zg_X12_26 zs_0 rfl ?_
    refine z_sipush (v := (372 : Int32)) dX12_remembers_66 rfl ?_
    refine z_aload_n dX12_remembers_69 rfl ?_
    refine z_getI dX12_remembers_70 zg_X12_75 zs_0 rfl ?_
    refine z_iconst (v := (1 : Int32)) dX12_remembers_73 rfl ?_
    refine z_isub dX12_remembers_74 ?_
    refine z_imul dX12_remembers_75 ?_
    refine z_iload_n dX12_remembers_76 rfl ?_
    refine z_iadd dX12_remembers_77 ?_
    refine z_aload_n dX12_remembers_78 rfl ?_
    refine z_getR dX12_remembers_79 zg_X12_13 zs_0 rfl ?_
    refine z_iload_n dX12_remembers_82 rfl ?_
    obtain ⟨g5, h4⟩ := h3
    refine z_iald dX12_remembers_83 zs_1 g5 ?_
    obtain ⟨g7, h6⟩ := h4
    refine z_iast dX12_remembers_84 zs_5 g7 ?_
    generalize hhM8 : zup M 5 ((((372 : Int32) * ((M.1 0 7) - (1 : Int32))) + y1)).toNatClampNeg (M.1 1 (y1).toNatClampNeg) = M8
    have h9 := h6 M8 hhM8.symm
    refine z_iinc dX12_remembers_85 rfl (by decide) (ls' := [.ref 0, .int (y1 + (1 : Int32))]) rfl ?_
    refine z_goto (tgt := 55) dX12_remembers_88 (by decide) ?_
    exact h9
def w_X12_undo_26 (E : zEv) (D : Nat) (post : Int32 → zM → Prop) (px : String → zM → Prop)  (y1 : Int32) (M : zM) : Prop := Z E jX12_undo D 0 (zQi post px) 26 0 [.ref 0, .int y1] [] M
theorem e_X12_undo {E : zEv} {D : Nat} {post : Int32 → zM → Prop} {px : String → zM → Prop} {M : zM}   (h : ∀ M1 : zM, M1 = zup M 0 0 (0 : Int32) → ((¬ (M1.1 0 7) = 0 → ∀ M6 : zM, M6 = zup M1 0 7 ((M1.1 0 7) - (1 : Int32)) → w_X12_undo_26 E D post px (0 : Int32) M6) ∧ ((M1.1 0 7) = 0 → post (0 : Int32) M1))) : zCi E jX12_undo D 0 [.ref 0] M post px := by
  refine z_meth (by decide) (Nat.le_of_ble_eq_true rfl) ?_
  show Z E jX12_undo D 0 (zQi post px) 0 0 [.ref 0, zU] [] M
  refine z_aload_n dX12_undo_0 rfl ?_
  refine z_iconst (v := (0 : Int32)) dX12_undo_1 rfl ?_
  refine z_putI dX12_undo_2 zp_X12_3 zs_0 rfl rfl rfl ?_
  generalize hhM1 : zup M 0 0 (0 : Int32) = M1
  have h2 := h M1 hhM1.symm
  refine z_aload_n dX12_undo_5 rfl ?_
  refine z_getI dX12_undo_6 zg_X12_75 zs_0 rfl ?_
  refine z_if_ne (tgt := 14) dX12_undo_9 (by decide) (fun g3 => ?_) (fun g3 => ?_)
  · have h4 := h2.1 g3
    refine z_aload_n dX12_undo_14 rfl ?_
    refine z_dup dX12_undo_15 rfl ?_
    refine z_getI dX12_undo_16 zg_X12_75 zs_0 rfl ?_
    refine z_iconst (v := (1 : Int32)) dX12_undo_19 rfl ?_
    refine z_isub dX12_undo_20 ?_
    refine z_putI dX12_undo_21 zp_X12_75 zs_0 rfl rfl rfl ?_
    generalize hhM6 : zup M1 0 7 ((M1.1 0 7) - (1 : Int32)) = M6
    have h7 := h4 M6 hhM6.symm
    refine z_iconst (v := (0 : Int32)) dX12_undo_24 rfl ?_
    refine z_istore_n dX12_undo_25 (by decide) (ls' := [.ref 0, .int (0 : Int32)]) rfl ?_
    exact h7
  · have h5 := h2.2 g3
    refine z_iconst (v := (0 : Int32)) dX12_undo_12 rfl ?_
    exact z_iret dX12_undo_13 rfl (by decide) (by decide) h5
theorem t_X12_undo_26 {E : zEv} {D : Nat} {post : Int32 → zM → Prop} {px : String → zM → Prop} {M : zM}   {y1 : Int32} (h : (((372 : Int32) ≤ y1 → post (1 : Int32) M) ∧ (¬ (372 : Int32) ≤ y1 → vp_in (((372 : Int32) * (M.1 0 7)) + y1) 4464 ∧ vp_in y1 2070 ∧ ∀ M8 : zM, M8 = zup M 1 (y1).toNatClampNeg (M.1 5 ((((372 : Int32) * (M.1 0 7)) + y1)).toNatClampNeg) → w_X12_undo_26 E D post px (y1 + (1 : Int32)) M8))) : w_X12_undo_26 E D post px y1 M := by
  show Z E jX12_undo D 0 (zQi post px) 26 0 [.ref 0, .int y1] [] M
  refine z_iload_n dX12_undo_26 rfl ?_
  refine z_sipush (v := (372 : Int32)) dX12_undo_27 rfl ?_
  refine z_icmp_ge (tgt := 60) dX12_undo_30 (by decide) (fun g1 => ?_) (fun g1 => ?_)
  · have h2 := h.1 g1
    refine z_iconst (v := (1 : Int32)) dX12_undo_60 rfl ?_
    exact z_iret dX12_undo_61 rfl (by decide) (by decide) h2
  · have h3 := h.2 g1
    refine z_aload_n dX12_undo_33 rfl ?_
    refine z_getR dX12_undo_34 zg_X12_13 zs_0 rfl ?_
    refine z_iload_n dX12_undo_37 rfl ?_
    refine z_aload_n dX12_undo_38 rfl ?_
    refine z_getR dX12_undo_39 zg_X12_26 zs_0 rfl ?_
    refine z_sipush (v := (372 : Int32)) dX12_undo_42 rfl ?_
    refine z_aload_n dX12_undo_45 rfl ?_
    refine z_getI dX12_undo_46 zg_X12_75 zs_0 rfl ?_
    refine z_imul dX12_undo_49 ?_
    refine z_iload_n dX12_undo_50 rfl ?_
    refine z_iadd dX12_undo_51 ?_
    obtain ⟨g5, h4⟩ := h3
    refine z_iald dX12_undo_52 zs_5 g5 ?_
    obtain ⟨g7, h6⟩ := h4
    refine z_iast dX12_undo_53 zs_1 g7 ?_
    generalize hhM8 : zup M 1 (y1).toNatClampNeg (M.1 5 ((((372 : Int32) * (M.1 0 7)) + y1)).toNatClampNeg) = M8
    have h9 := h6 M8 hhM8.symm
    refine z_iinc dX12_undo_54 rfl (by decide) (ls' := [.ref 0, .int (y1 + (1 : Int32))]) rfl ?_
    refine z_goto (tgt := 26) dX12_undo_57 (by decide) ?_
    exact h9
def w_X12_keepsAll_2 (E : zEv) (D : Nat) (post : zM → Prop) (px : String → zM → Prop)  (y1 : Int32) (M : zM) : Prop := Z E jX12_keepsAll D 0 (zQv post px) 2 0 [.ref 0, .int y1] [] M
theorem e_X12_keepsAll {E : zEv} {D : Nat} {post : zM → Prop} {px : String → zM → Prop} {M : zM}   (h : w_X12_keepsAll_2 E D post px (0 : Int32) M) : zCv E jX12_keepsAll D 0 [.ref 0] M post px := by
  refine z_meth (by decide) (Nat.le_of_ble_eq_true rfl) ?_
  show Z E jX12_keepsAll D 0 (zQv post px) 0 0 [.ref 0, zU] [] M
  refine z_iconst (v := (0 : Int32)) dX12_keepsAll_0 rfl ?_
  refine z_istore_n dX12_keepsAll_1 (by decide) (ls' := [.ref 0, .int (0 : Int32)]) rfl ?_
  exact h
theorem t_X12_keepsAll_2 {E : zEv} {D : Nat} {post : zM → Prop} {px : String → zM → Prop} {M : zM}   {y1 : Int32} (h : (((372 : Int32) ≤ y1 → post M) ∧ (¬ (372 : Int32) ≤ y1 → vp_in y1 2070 ∧ vp_in y1 372 ∧ ∀ M8 : zM, M8 = zup M 4 (y1).toNatClampNeg (M.1 1 (y1).toNatClampNeg) → w_X12_keepsAll_2 E D post px (y1 + (1 : Int32)) M8))) : w_X12_keepsAll_2 E D post px y1 M := by
  show Z E jX12_keepsAll D 0 (zQv post px) 2 0 [.ref 0, .int y1] [] M
  refine z_iload_n dX12_keepsAll_2 rfl ?_
  refine z_sipush (v := (372 : Int32)) dX12_keepsAll_3 rfl ?_
  refine z_icmp_ge (tgt := 27) dX12_keepsAll_6 (by decide) (fun g1 => ?_) (fun g1 => ?_)
  · have h2 := h.1 g1
    exact z_vret dX12_keepsAll_27 rfl (by decide) h2
  · have h3 := h.2 g1
    refine z_aload_n dX12_keepsAll_9 rfl ?_
    refine z_getR dX12_keepsAll_10 zg_X12_23 zs_0 rfl ?_
    refine z_iload_n dX12_keepsAll_13 rfl ?_
    refine z_aload_n dX12_keepsAll_14 rfl ?_
    refine z_getR dX12_keepsAll_15 zg_X12_13 zs_0 rfl ?_
    refine z_iload_n dX12_keepsAll_18 rfl ?_
    obtain ⟨g5, h4⟩ := h3
    refine z_iald dX12_keepsAll_19 zs_1 g5 ?_
    obtain ⟨g7, h6⟩ := h4
    refine z_iast dX12_keepsAll_20 zs_4 g7 ?_
    generalize hhM8 : zup M 4 (y1).toNatClampNeg (M.1 1 (y1).toNatClampNeg) = M8
    have h9 := h6 M8 hhM8.symm
    refine z_iinc dX12_keepsAll_21 rfl (by decide) (ls' := [.ref 0, .int (y1 + (1 : Int32))]) rfl ?_
    refine z_goto (tgt := 2) dX12_keepsAll_24 (by decide) ?_
    exact h9
def w_X12_bringsBack_2 (E : zEv) (D : Nat) (post : zM → Prop) (px : String → zM → Prop)  (y1 : Int32) (M : zM) : Prop := Z E jX12_bringsBack D 0 (zQv post px) 2 0 [.ref 0, .int y1] [] M
theorem e_X12_bringsBack {E : zEv} {D : Nat} {post : zM → Prop} {px : String → zM → Prop} {M : zM}   (h : w_X12_bringsBack_2 E D post px (0 : Int32) M) : zCv E jX12_bringsBack D 0 [.ref 0] M post px := by
  refine z_meth (by decide) (Nat.le_of_ble_eq_true rfl) ?_
  show Z E jX12_bringsBack D 0 (zQv post px) 0 0 [.ref 0, zU] [] M
  refine z_iconst (v := (0 : Int32)) dX12_bringsBack_0 rfl ?_
  refine z_istore_n dX12_bringsBack_1 (by decide) (ls' := [.ref 0, .int (0 : Int32)]) rfl ?_
  exact h
theorem t_X12_bringsBack_2 {E : zEv} {D : Nat} {post : zM → Prop} {px : String → zM → Prop} {M : zM}   {y1 : Int32} (h : (((372 : Int32) ≤ y1 → post M) ∧ (¬ (372 : Int32) ≤ y1 → vp_in y1 372 ∧ vp_in y1 2070 ∧ ∀ M8 : zM, M8 = zup M 1 (y1).toNatClampNeg (M.1 4 (y1).toNatClampNeg) → w_X12_bringsBack_2 E D post px (y1 + (1 : Int32)) M8))) : w_X12_bringsBack_2 E D post px y1 M := by
  show Z E jX12_bringsBack D 0 (zQv post px) 2 0 [.ref 0, .int y1] [] M
  refine z_iload_n dX12_bringsBack_2 rfl ?_
  refine z_sipush (v := (372 : Int32)) dX12_bringsBack_3 rfl ?_
  refine z_icmp_ge (tgt := 27) dX12_bringsBack_6 (by decide) (fun g1 => ?_) (fun g1 => ?_)
  · have h2 := h.1 g1
    exact z_vret dX12_bringsBack_27 rfl (by decide) h2
  · have h3 := h.2 g1
    refine z_aload_n dX12_bringsBack_9 rfl ?_
    refine z_getR dX12_bringsBack_10 zg_X12_13 zs_0 rfl ?_
    refine z_iload_n dX12_bringsBack_13 rfl ?_
    refine z_aload_n dX12_bringsBack_14 rfl ?_
    refine z_getR dX12_bringsBack_15 zg_X12_23 zs_0 rfl ?_
    refine z_iload_n dX12_bringsBack_18 rfl ?_
    obtain ⟨g5, h4⟩ := h3
    refine z_iald dX12_bringsBack_19 zs_4 g5 ?_
    obtain ⟨g7, h6⟩ := h4
    refine z_iast dX12_bringsBack_20 zs_1 g7 ?_
    generalize hhM8 : zup M 1 (y1).toNatClampNeg (M.1 4 (y1).toNatClampNeg) = M8
    have h9 := h6 M8 hhM8.symm
    refine z_iinc dX12_bringsBack_21 rfl (by decide) (ls' := [.ref 0, .int (y1 + (1 : Int32))]) rfl ?_
    refine z_goto (tgt := 2) dX12_bringsBack_24 (by decide) ?_
    exact h9
theorem e_X12_witnesses {E : zEv} {D : Nat} {post : Int32 → zM → Prop} {px : String → zM → Prop} {M : zM}   (h : post (M.1 1 ((0 : Int32)).toNatClampNeg) M) : zCi E jX12_witnesses D 0 [.ref 0] M post px := by
  refine z_meth (by decide) (Nat.le_of_ble_eq_true rfl) ?_
  show Z E jX12_witnesses D 0 (zQi post px) 0 0 [.ref 0] [] M
  refine z_aload_n dX12_witnesses_0 rfl ?_
  refine z_getR dX12_witnesses_1 zg_X12_13 zs_0 rfl ?_
  refine z_iconst (v := (0 : Int32)) dX12_witnesses_4 rfl ?_
  refine z_iald dX12_witnesses_5 zs_1 (by unfold vp_in; decide) ?_
  exact z_iret dX12_witnesses_6 rfl rfl (by decide) h
theorem e_X12_things {E : zEv} {D : Nat} {post : Int32 → zM → Prop} {px : String → zM → Prop} {M : zM}   (h : post (M.1 1 ((1 : Int32)).toNatClampNeg) M) : zCi E jX12_things D 0 [.ref 0] M post px := by
  refine z_meth (by decide) (Nat.le_of_ble_eq_true rfl) ?_
  show Z E jX12_things D 0 (zQi post px) 0 0 [.ref 0] [] M
  refine z_aload_n dX12_things_0 rfl ?_
  refine z_getR dX12_things_1 zg_X12_13 zs_0 rfl ?_
  refine z_iconst (v := (1 : Int32)) dX12_things_4 rfl ?_
  refine z_iald dX12_things_5 zs_1 (by unfold vp_in; decide) ?_
  exact z_iret dX12_things_6 rfl rfl (by decide) h
theorem e_X12_questions {E : zEv} {D : Nat} {post : Int32 → zM → Prop} {px : String → zM → Prop} {M : zM}   (h : post (M.1 1 ((2 : Int32)).toNatClampNeg) M) : zCi E jX12_questions D 0 [.ref 0] M post px := by
  refine z_meth (by decide) (Nat.le_of_ble_eq_true rfl) ?_
  show Z E jX12_questions D 0 (zQi post px) 0 0 [.ref 0] [] M
  refine z_aload_n dX12_questions_0 rfl ?_
  refine z_getR dX12_questions_1 zg_X12_13 zs_0 rfl ?_
  refine z_iconst (v := (2 : Int32)) dX12_questions_4 rfl ?_
  refine z_iald dX12_questions_5 zs_1 (by unfold vp_in; decide) ?_
  exact z_iret dX12_questions_6 rfl rfl (by decide) h
theorem e_X12_women {E : zEv} {D : Nat} {post : Int32 → zM → Prop} {px : String → zM → Prop} {M : zM}   (h : post (M.1 1 ((3 : Int32)).toNatClampNeg) M) : zCi E jX12_women D 0 [.ref 0] M post px := by
  refine z_meth (by decide) (Nat.le_of_ble_eq_true rfl) ?_
  show Z E jX12_women D 0 (zQi post px) 0 0 [.ref 0] [] M
  refine z_aload_n dX12_women_0 rfl ?_
  refine z_getR dX12_women_1 zg_X12_13 zs_0 rfl ?_
  refine z_iconst (v := (3 : Int32)) dX12_women_4 rfl ?_
  refine z_iald dX12_women_5 zs_1 (by unfold vp_in; decide) ?_
  exact z_iret dX12_women_6 rfl rfl (by decide) h
theorem e_X12_at {E : zEv} {D : Nat} {post : Int32 → zM → Prop} {px : String → zM → Prop} {M : zM} {x1 : Int32} {x2 : Int32}  (h : post (((29 : Int32) + ((5 : Int32) * x1)) + x2) M) : zCi E jX12_at D 0 [.int x1, .int x2] M post px := by
  refine z_meth (by decide) (Nat.le_of_ble_eq_true rfl) ?_
  show Z E jX12_at D 0 (zQi post px) 0 0 [.int x1, .int x2] [] M
  refine z_bipush (v := (29 : Int32)) dX12_at_0 rfl ?_
  refine z_iconst (v := (5 : Int32)) dX12_at_2 rfl ?_
  refine z_iload_n dX12_at_3 rfl ?_
  refine z_imul dX12_at_4 ?_
  refine z_iadd dX12_at_5 ?_
  refine z_iload_n dX12_at_6 rfl ?_
  refine z_iadd dX12_at_7 ?_
  exact z_iret dX12_at_8 rfl rfl (by decide) h
theorem e_X12_of {E : zEv} {D : Nat} {post : Int32 → zM → Prop} {px : String → zM → Prop} {M : zM} {x1 : Int32} {x2 : Int32}  (h : zCi E jX12_at D 0 [.int x1, .int x2] M (fun r3 M1 => vp_in r3 2070 ∧ post (M1.1 1 (r3).toNatClampNeg) M1) px) : zCi E jX12_of (D + 1) 0 [.ref 0, .int x1, .int x2] M post px := by
  refine z_meth (by decide) (Nat.le_of_ble_eq_true rfl) ?_
  show Z E jX12_of (D + 1) 0 (zQi post px) 0 0 [.ref 0, .int x1, .int x2] [] M
  refine z_aload_n dX12_of_0 rfl ?_
  refine z_getR dX12_of_1 zg_X12_13 zs_0 rfl ?_
  refine z_iload_n dX12_of_4 rfl ?_
  refine z_iload_n dX12_of_5 rfl ?_
  refine z_callSi (As := [.int x1, .int x2]) (st := [.ref 1]) dX12_of_6 zi_X12_78 rfl rfl (Nat.le_of_ble_eq_true rfl) (by decide) (fun _ _ hx => hx) h ?_
  intro r3 M1 h2
  obtain ⟨g5, h4⟩ := h2
  refine z_iald dX12_of_9 zs_1 g5 ?_
  exact z_iret dX12_of_10 rfl rfl (by decide) h4
theorem e_X12_thingAt {E : zEv} {D : Nat} {post : Int32 → zM → Prop} {px : String → zM → Prop} {M : zM} {x1 : Int32} {x2 : Int32}  (h : post (((54 : Int32) + ((3 : Int32) * x1)) + x2) M) : zCi E jX12_thingAt D 0 [.int x1, .int x2] M post px := by
  refine z_meth (by decide) (Nat.le_of_ble_eq_true rfl) ?_
  show Z E jX12_thingAt D 0 (zQi post px) 0 0 [.int x1, .int x2] [] M
  refine z_bipush (v := (54 : Int32)) dX12_thingAt_0 rfl ?_
  refine z_iconst (v := (3 : Int32)) dX12_thingAt_2 rfl ?_
  refine z_iload_n dX12_thingAt_3 rfl ?_
  refine z_imul dX12_thingAt_4 ?_
  refine z_iadd dX12_thingAt_5 ?_
  refine z_iload_n dX12_thingAt_6 rfl ?_
  refine z_iadd dX12_thingAt_7 ?_
  exact z_iret dX12_thingAt_8 rfl rfl (by decide) h
theorem e_X12_ofThing {E : zEv} {D : Nat} {post : Int32 → zM → Prop} {px : String → zM → Prop} {M : zM} {x1 : Int32} {x2 : Int32}  (h : zCi E jX12_thingAt D 0 [.int x1, .int x2] M (fun r3 M1 => vp_in r3 2070 ∧ post (M1.1 1 (r3).toNatClampNeg) M1) px) : zCi E jX12_ofThing (D + 1) 0 [.ref 0, .int x1, .int x2] M post px := by
  refine z_meth (by decide) (Nat.le_of_ble_eq_true rfl) ?_
  show Z E jX12_ofThing (D + 1) 0 (zQi post px) 0 0 [.ref 0, .int x1, .int x2] [] M
  refine z_aload_n dX12_ofThing_0 rfl ?_
  refine z_getR dX12_ofThing_1 zg_X12_13 zs_0 rfl ?_
  refine z_iload_n dX12_ofThing_4 rfl ?_
  refine z_iload_n dX12_ofThing_5 rfl ?_
  refine z_callSi (As := [.int x1, .int x2]) (st := [.ref 1]) dX12_ofThing_6 zi_X12_82 rfl rfl (Nat.le_of_ble_eq_true rfl) (by decide) (fun _ _ hx => hx) h ?_
  intro r3 M1 h2
  obtain ⟨g5, h4⟩ := h2
  refine z_iald dX12_ofThing_9 zs_1 g5 ?_
  exact z_iret dX12_ofThing_10 rfl rfl (by decide) h4
theorem e_X12_allThings {E : zEv} {D : Nat} {post : Int32 → zM → Prop} {px : String → zM → Prop} {M : zM}   (h : zCi E jX12_things D 0 [.ref 0] M (fun r3 M1 => post (((1 : Int32) <<< (r3 &&& 31)) - (1 : Int32)) M1) px) : zCi E jX12_allThings (D + 1) 0 [.ref 0] M post px := by
  refine z_meth (by decide) (Nat.le_of_ble_eq_true rfl) ?_
  show Z E jX12_allThings (D + 1) 0 (zQi post px) 0 0 [.ref 0] [] M
  refine z_iconst (v := (1 : Int32)) dX12_allThings_0 rfl ?_
  refine z_aload_n dX12_allThings_1 rfl ?_
  refine z_callVi (As := []) (st := [.int (1 : Int32)]) dX12_allThings_2 zi_X12_85 rfl rfl zs_0 rfl rfl (Nat.le_of_ble_eq_true rfl) (by decide) (fun _ _ hx => hx) h ?_
  intro r3 M1 h2
  refine z_ishl dX12_allThings_5 ?_
  refine z_iconst (v := (1 : Int32)) dX12_allThings_6 rfl ?_
  refine z_isub dX12_allThings_7 ?_
  exact z_iret dX12_allThings_8 rfl rfl (by decide) h2
def w_X12_whatIsSo_4 (E : zEv) (D : Nat) (post : Int32 → zM → Prop) (px : String → zM → Prop)  (y1 : Int32) (y2 : Int32) (M : zM) : Prop := Z E jX12_whatIsSo (D + 1) 0 (zQi post px) 4 0 [.ref 0, .int y1, .int y2] [] M
theorem e_X12_whatIsSo {E : zEv} {D : Nat} {post : Int32 → zM → Prop} {px : String → zM → Prop} {M : zM}   (h : w_X12_whatIsSo_4 E D post px (0 : Int32) (0 : Int32) M) : zCi E jX12_whatIsSo (D + 1) 0 [.ref 0] M post px := by
  refine z_meth (by decide) (Nat.le_of_ble_eq_true rfl) ?_
  show Z E jX12_whatIsSo (D + 1) 0 (zQi post px) 0 0 [.ref 0, zU, zU] [] M
  refine z_iconst (v := (0 : Int32)) dX12_whatIsSo_0 rfl ?_
  refine z_istore_n dX12_whatIsSo_1 (by decide) (ls' := [.ref 0, .int (0 : Int32), zU]) rfl ?_
  refine z_iconst (v := (0 : Int32)) dX12_whatIsSo_2 rfl ?_
  refine z_istore_n dX12_whatIsSo_3 (by decide) (ls' := [.ref 0, .int (0 : Int32), .int (0 : Int32)]) rfl ?_
  exact h
theorem t_X12_whatIsSo_4 {E : zEv} {D : Nat} {post : Int32 → zM → Prop} {px : String → zM → Prop} {M : zM}   {y1 : Int32} {y2 : Int32} (h : zCi E jX12_things D 0 [.ref 0] M (fun r3 M1 => ((r3 ≤ y2 → post y1 M1) ∧ (¬ r3 ≤ y2 → zCi E jX12_ofThing D 0 [.ref 0, .int y2, .int (2 : Int32)] M1 (fun r9 M7 => w_X12_whatIsSo_4 E D post px (y1 ||| (r9 <<< (y2 &&& 31))) (y2 + (1 : Int32)) M7) px))) px) : w_X12_whatIsSo_4 E D post px y1 y2 M := by
  show Z E jX12_whatIsSo (D + 1) 0 (zQi post px) 4 0 [.ref 0, .int y1, .int y2] [] M
  refine z_iload_n dX12_whatIsSo_4 rfl ?_
  refine z_aload_n dX12_whatIsSo_5 rfl ?_
  refine z_callVi (As := []) (st := [.int y2]) dX12_whatIsSo_6 zi_X12_85 rfl rfl zs_0 rfl rfl (Nat.le_of_ble_eq_true rfl) (by decide) (fun _ _ hx => hx) h ?_
  intro r3 M1 h2
  refine z_icmp_ge (tgt := 29) dX12_whatIsSo_9 (by decide) (fun g4 => ?_) (fun g4 => ?_)
  · have h5 := h2.1 g4
    refine z_iload_n dX12_whatIsSo_29 rfl ?_
    exact z_iret dX12_whatIsSo_30 rfl rfl (by decide) h5
  · have h6 := h2.2 g4
    refine z_iload_n dX12_whatIsSo_12 rfl ?_
    refine z_aload_n dX12_whatIsSo_13 rfl ?_
    refine z_iload_n dX12_whatIsSo_14 rfl ?_
    refine z_iconst (v := (2 : Int32)) dX12_whatIsSo_15 rfl ?_
    refine z_callVi (As := [.int y2, .int (2 : Int32)]) (st := [.int y1]) dX12_whatIsSo_16 zi_X12_89 rfl rfl zs_0 rfl rfl (Nat.le_of_ble_eq_true rfl) (by decide) (fun _ _ hx => hx) h6 ?_
    intro r9 M7 h8
    refine z_iload_n dX12_whatIsSo_19 rfl ?_
    refine z_ishl dX12_whatIsSo_20 ?_
    refine z_ior dX12_whatIsSo_21 ?_
    refine z_istore_n dX12_whatIsSo_22 (by decide) (ls' := [.ref 0, .int (y1 ||| (r9 <<< (y2 &&& 31))), .int y2]) rfl ?_
    refine z_iinc dX12_whatIsSo_23 rfl (by decide) (ls' := [.ref 0, .int (y1 ||| (r9 <<< (y2 &&& 31))), .int (y2 + (1 : Int32))]) rfl ?_
    refine z_goto (tgt := 4) dX12_whatIsSo_26 (by decide) ?_
    exact h8
def w_X12_noWitness_19 (E : zEv) (D : Nat) (post : Int32 → zM → Prop) (px : String → zM → Prop)  (s0 : Int32) (M : zM) : Prop := Z E jX12_noWitness (D + 1) 0 (zQi post px) 19 0 [zU, zU] [.int s0] M
theorem e_X12_noWitness {E : zEv} {D : Nat} {post : Int32 → zM → Prop} {px : String → zM → Prop} {M : zM} {x1 : Int32}  (h : zCi E jX12_witnesses D 0 [.ref 0] M (fun r3 M1 => zCi E jX12_in D 0 [.int x1, .int (0 : Int32), .int (r3 - (1 : Int32))] M1 (fun r6 M4 => ((¬ r6 = 0 → w_X12_noWitness_19 E D post px (0 : Int32) M4) ∧ (r6 = 0 → w_X12_noWitness_19 E D post px (1 : Int32) M4))) px) px) : zCi E jX12_noWitness (D + 1) 0 [.ref 0, .int x1] M post px := by
  refine z_meth (by decide) (Nat.le_of_ble_eq_true rfl) ?_
  show Z E jX12_noWitness (D + 1) 0 (zQi post px) 0 0 [.ref 0, .int x1] [] M
  refine z_iload_n dX12_noWitness_0 rfl ?_
  refine z_iconst (v := (0 : Int32)) dX12_noWitness_1 rfl ?_
  refine z_aload_n dX12_noWitness_2 rfl ?_
  refine z_callVi (As := []) (st := [.int (0 : Int32), .int x1]) dX12_noWitness_3 zi_X12_92 rfl rfl zs_0 rfl rfl (Nat.le_of_ble_eq_true rfl) (by decide) (fun _ _ hx => hx) h ?_
  intro r3 M1 h2
  refine z_iconst (v := (1 : Int32)) dX12_noWitness_6 rfl ?_
  refine z_isub dX12_noWitness_7 ?_
  refine z_callSi (As := [.int x1, .int (0 : Int32), .int (r3 - (1 : Int32))]) (st := []) dX12_noWitness_8 zi_X12_95 rfl rfl (Nat.le_of_ble_eq_true rfl) (by decide) (fun _ _ hx => hx) h2 ?_
  intro r6 M4 h5
  refine z_if_ne (tgt := 18) dX12_noWitness_11 (by decide) (fun g7 => ?_) (fun g7 => ?_)
  · have h8 := h5.1 g7
    refine z_iconst (v := (0 : Int32)) dX12_noWitness_18 rfl ?_
    refine z_weak [false, false] (ls' := [zU, zU]) rfl rfl ?_
    exact h8
  · have h9 := h5.2 g7
    refine z_iconst (v := (1 : Int32)) dX12_noWitness_14 rfl ?_
    refine z_goto (tgt := 19) dX12_noWitness_15 (by decide) ?_
    refine z_weak [false, false] (ls' := [zU, zU]) rfl rfl ?_
    exact h9
theorem t_X12_noWitness_19 {E : zEv} {D : Nat} {post : Int32 → zM → Prop} {px : String → zM → Prop} {M : zM}   {s0 : Int32} (h : (s0 = 0 ∨ s0 = 1) ∧ post s0 M) : w_X12_noWitness_19 E D post px s0 M := by
  show Z E jX12_noWitness (D + 1) 0 (zQi post px) 19 0 [zU, zU] [.int s0] M
  obtain ⟨g2, h1⟩ := h
  exact z_iret dX12_noWitness_19 rfl (zbool g2) (by decide) h1
def w_X12_noThing_19 (E : zEv) (D : Nat) (post : Int32 → zM → Prop) (px : String → zM → Prop)  (s0 : Int32) (M : zM) : Prop := Z E jX12_noThing (D + 1) 0 (zQi post px) 19 0 [zU, zU] [.int s0] M
theorem e_X12_noThing {E : zEv} {D : Nat} {post : Int32 → zM → Prop} {px : String → zM → Prop} {M : zM} {x1 : Int32}  (h : zCi E jX12_things D 0 [.ref 0] M (fun r3 M1 => zCi E jX12_in D 0 [.int x1, .int (0 : Int32), .int (r3 - (1 : Int32))] M1 (fun r6 M4 => ((¬ r6 = 0 → w_X12_noThing_19 E D post px (0 : Int32) M4) ∧ (r6 = 0 → w_X12_noThing_19 E D post px (1 : Int32) M4))) px) px) : zCi E jX12_noThing (D + 1) 0 [.ref 0, .int x1] M post px := by
  refine z_meth (by decide) (Nat.le_of_ble_eq_true rfl) ?_
  show Z E jX12_noThing (D + 1) 0 (zQi post px) 0 0 [.ref 0, .int x1] [] M
  refine z_iload_n dX12_noThing_0 rfl ?_
  refine z_iconst (v := (0 : Int32)) dX12_noThing_1 rfl ?_
  refine z_aload_n dX12_noThing_2 rfl ?_
  refine z_callVi (As := []) (st := [.int (0 : Int32), .int x1]) dX12_noThing_3 zi_X12_85 rfl rfl zs_0 rfl rfl (Nat.le_of_ble_eq_true rfl) (by decide) (fun _ _ hx => hx) h ?_
  intro r3 M1 h2
  refine z_iconst (v := (1 : Int32)) dX12_noThing_6 rfl ?_
  refine z_isub dX12_noThing_7 ?_
  refine z_callSi (As := [.int x1, .int (0 : Int32), .int (r3 - (1 : Int32))]) (st := []) dX12_noThing_8 zi_X12_95 rfl rfl (Nat.le_of_ble_eq_true rfl) (by decide) (fun _ _ hx => hx) h2 ?_
  intro r6 M4 h5
  refine z_if_ne (tgt := 18) dX12_noThing_11 (by decide) (fun g7 => ?_) (fun g7 => ?_)
  · have h8 := h5.1 g7
    refine z_iconst (v := (0 : Int32)) dX12_noThing_18 rfl ?_
    refine z_weak [false, false] (ls' := [zU, zU]) rfl rfl ?_
    exact h8
  · have h9 := h5.2 g7
    refine z_iconst (v := (1 : Int32)) dX12_noThing_14 rfl ?_
    refine z_goto (tgt := 19) dX12_noThing_15 (by decide) ?_
    refine z_weak [false, false] (ls' := [zU, zU]) rfl rfl ?_
    exact h9
theorem t_X12_noThing_19 {E : zEv} {D : Nat} {post : Int32 → zM → Prop} {px : String → zM → Prop} {M : zM}   {s0 : Int32} (h : (s0 = 0 ∨ s0 = 1) ∧ post s0 M) : w_X12_noThing_19 E D post px s0 M := by
  show Z E jX12_noThing (D + 1) 0 (zQi post px) 19 0 [zU, zU] [.int s0] M
  obtain ⟨g2, h1⟩ := h
  exact z_iret dX12_noThing_19 rfl (zbool g2) (by decide) h1
def w_X12_noQuestion_19 (E : zEv) (D : Nat) (post : Int32 → zM → Prop) (px : String → zM → Prop)  (s0 : Int32) (M : zM) : Prop := Z E jX12_noQuestion (D + 1) 0 (zQi post px) 19 0 [zU, zU] [.int s0] M
theorem e_X12_noQuestion {E : zEv} {D : Nat} {post : Int32 → zM → Prop} {px : String → zM → Prop} {M : zM} {x1 : Int32}  (h : zCi E jX12_questions D 0 [.ref 0] M (fun r3 M1 => zCi E jX12_in D 0 [.int x1, .int (0 : Int32), .int (r3 - (1 : Int32))] M1 (fun r6 M4 => ((¬ r6 = 0 → w_X12_noQuestion_19 E D post px (0 : Int32) M4) ∧ (r6 = 0 → w_X12_noQuestion_19 E D post px (1 : Int32) M4))) px) px) : zCi E jX12_noQuestion (D + 1) 0 [.ref 0, .int x1] M post px := by
  refine z_meth (by decide) (Nat.le_of_ble_eq_true rfl) ?_
  show Z E jX12_noQuestion (D + 1) 0 (zQi post px) 0 0 [.ref 0, .int x1] [] M
  refine z_iload_n dX12_noQuestion_0 rfl ?_
  refine z_iconst (v := (0 : Int32)) dX12_noQuestion_1 rfl ?_
  refine z_aload_n dX12_noQuestion_2 rfl ?_
  refine z_callVi (As := []) (st := [.int (0 : Int32), .int x1]) dX12_noQuestion_3 zi_X12_99 rfl rfl zs_0 rfl rfl (Nat.le_of_ble_eq_true rfl) (by decide) (fun _ _ hx => hx) h ?_
  intro r3 M1 h2
  refine z_iconst (v := (1 : Int32)) dX12_noQuestion_6 rfl ?_
  refine z_isub dX12_noQuestion_7 ?_
  refine z_callSi (As := [.int x1, .int (0 : Int32), .int (r3 - (1 : Int32))]) (st := []) dX12_noQuestion_8 zi_X12_95 rfl rfl (Nat.le_of_ble_eq_true rfl) (by decide) (fun _ _ hx => hx) h2 ?_
  intro r6 M4 h5
  refine z_if_ne (tgt := 18) dX12_noQuestion_11 (by decide) (fun g7 => ?_) (fun g7 => ?_)
  · have h8 := h5.1 g7
    refine z_iconst (v := (0 : Int32)) dX12_noQuestion_18 rfl ?_
    refine z_weak [false, false] (ls' := [zU, zU]) rfl rfl ?_
    exact h8
  · have h9 := h5.2 g7
    refine z_iconst (v := (1 : Int32)) dX12_noQuestion_14 rfl ?_
    refine z_goto (tgt := 19) dX12_noQuestion_15 (by decide) ?_
    refine z_weak [false, false] (ls' := [zU, zU]) rfl rfl ?_
    exact h9
theorem t_X12_noQuestion_19 {E : zEv} {D : Nat} {post : Int32 → zM → Prop} {px : String → zM → Prop} {M : zM}   {s0 : Int32} (h : (s0 = 0 ∨ s0 = 1) ∧ post s0 M) : w_X12_noQuestion_19 E D post px s0 M := by
  show Z E jX12_noQuestion (D + 1) 0 (zQi post px) 19 0 [zU, zU] [.int s0] M
  obtain ⟨g2, h1⟩ := h
  exact z_iret dX12_noQuestion_19 rfl (zbool g2) (by decide) h1
def w_X12_noWoman_19 (E : zEv) (D : Nat) (post : Int32 → zM → Prop) (px : String → zM → Prop)  (s0 : Int32) (M : zM) : Prop := Z E jX12_noWoman (D + 1) 0 (zQi post px) 19 0 [zU, zU] [.int s0] M
theorem e_X12_noWoman {E : zEv} {D : Nat} {post : Int32 → zM → Prop} {px : String → zM → Prop} {M : zM} {x1 : Int32}  (h : zCi E jX12_women D 0 [.ref 0] M (fun r3 M1 => zCi E jX12_in D 0 [.int x1, .int (0 : Int32), .int (r3 - (1 : Int32))] M1 (fun r6 M4 => ((¬ r6 = 0 → w_X12_noWoman_19 E D post px (0 : Int32) M4) ∧ (r6 = 0 → w_X12_noWoman_19 E D post px (1 : Int32) M4))) px) px) : zCi E jX12_noWoman (D + 1) 0 [.ref 0, .int x1] M post px := by
  refine z_meth (by decide) (Nat.le_of_ble_eq_true rfl) ?_
  show Z E jX12_noWoman (D + 1) 0 (zQi post px) 0 0 [.ref 0, .int x1] [] M
  refine z_iload_n dX12_noWoman_0 rfl ?_
  refine z_iconst (v := (0 : Int32)) dX12_noWoman_1 rfl ?_
  refine z_aload_n dX12_noWoman_2 rfl ?_
  refine z_callVi (As := []) (st := [.int (0 : Int32), .int x1]) dX12_noWoman_3 zi_X12_102 rfl rfl zs_0 rfl rfl (Nat.le_of_ble_eq_true rfl) (by decide) (fun _ _ hx => hx) h ?_
  intro r3 M1 h2
  refine z_iconst (v := (1 : Int32)) dX12_noWoman_6 rfl ?_
  refine z_isub dX12_noWoman_7 ?_
  refine z_callSi (As := [.int x1, .int (0 : Int32), .int (r3 - (1 : Int32))]) (st := []) dX12_noWoman_8 zi_X12_95 rfl rfl (Nat.le_of_ble_eq_true rfl) (by decide) (fun _ _ hx => hx) h2 ?_
  intro r6 M4 h5
  refine z_if_ne (tgt := 18) dX12_noWoman_11 (by decide) (fun g7 => ?_) (fun g7 => ?_)
  · have h8 := h5.1 g7
    refine z_iconst (v := (0 : Int32)) dX12_noWoman_18 rfl ?_
    refine z_weak [false, false] (ls' := [zU, zU]) rfl rfl ?_
    exact h8
  · have h9 := h5.2 g7
    refine z_iconst (v := (1 : Int32)) dX12_noWoman_14 rfl ?_
    refine z_goto (tgt := 19) dX12_noWoman_15 (by decide) ?_
    refine z_weak [false, false] (ls' := [zU, zU]) rfl rfl ?_
    exact h9
theorem t_X12_noWoman_19 {E : zEv} {D : Nat} {post : Int32 → zM → Prop} {px : String → zM → Prop} {M : zM}   {s0 : Int32} (h : (s0 = 0 ∨ s0 = 1) ∧ post s0 M) : w_X12_noWoman_19 E D post px s0 M := by
  show Z E jX12_noWoman (D + 1) 0 (zQi post px) 19 0 [zU, zU] [.int s0] M
  obtain ⟨g2, h1⟩ := h
  exact z_iret dX12_noWoman_19 rfl (zbool g2) (by decide) h1
theorem e_X12_drawn {E : zEv} {D : Nat} {post : Int32 → zM → Prop} {px : String → zM → Prop} {M : zM} {x1 : Int32}  (h : ∀ M1 : zM, M1 = zup M 1 ((11 : Int32)).toNatClampNeg (((1103515245 : Int32) * (M.1 1 ((11 : Int32)).toNatClampNeg)) + (12345 : Int32)) → ¬ x1 = 0 ∧ post (zrem (((M1.1 1 ((11 : Int32)).toNatClampNeg) >>> ((16 : Int32) &&& 31)) &&& (32767 : Int32)) x1) M1) : zCi E jX12_drawn D 0 [.ref 0, .int x1] M post px := by
  refine z_meth (by decide) (Nat.le_of_ble_eq_true rfl) ?_
  show Z E jX12_drawn D 0 (zQi post px) 0 0 [.ref 0, .int x1] [] M
  refine z_aload_n dX12_drawn_0 rfl ?_
  refine z_getR dX12_drawn_1 zg_X12_13 zs_0 rfl ?_
  refine z_bipush (v := (11 : Int32)) dX12_drawn_4 rfl ?_
  refine z_ldc (v := (1103515245 : Int32)) dX12_drawn_6 zw_1810 ?_
  refine z_aload_n dX12_drawn_8 rfl ?_
  refine z_getR dX12_drawn_9 zg_X12_13 zs_0 rfl ?_
  refine z_bipush (v := (11 : Int32)) dX12_drawn_12 rfl ?_
  refine z_iald dX12_drawn_14 zs_1 (by unfold vp_in; decide) ?_
  refine z_imul dX12_drawn_15 ?_
  refine z_sipush (v := (12345 : Int32)) dX12_drawn_16 rfl ?_
  refine z_iadd dX12_drawn_19 ?_
  refine z_iast dX12_drawn_20 zs_1 (by unfold vp_in; decide) ?_
  generalize hhM1 : zup M 1 ((11 : Int32)).toNatClampNeg (((1103515245 : Int32) * (M.1 1 ((11 : Int32)).toNatClampNeg)) + (12345 : Int32)) = M1
  have h2 := h M1 hhM1.symm
  refine z_aload_n dX12_drawn_21 rfl ?_
  refine z_getR dX12_drawn_22 zg_X12_13 zs_0 rfl ?_
  refine z_bipush (v := (11 : Int32)) dX12_drawn_25 rfl ?_
  refine z_iald dX12_drawn_27 zs_1 (by unfold vp_in; decide) ?_
  refine z_bipush (v := (16 : Int32)) dX12_drawn_28 rfl ?_
  refine z_ishr dX12_drawn_30 ?_
  refine z_sipush (v := (32767 : Int32)) dX12_drawn_31 rfl ?_
  refine z_iand dX12_drawn_34 ?_
  refine z_iload_n dX12_drawn_35 rfl ?_
  obtain ⟨g4, h3⟩ := h2
  refine z_irem dX12_drawn_36 g4 ?_
  exact z_iret dX12_drawn_37 rfl rfl (by decide) h3
def w_X12_feed_60 (E : zEv) (D : Nat) (post : Int32 → zM → Prop) (px : String → zM → Prop)  (y6 : Int32) (M : zM) : Prop := Z E jX12_feed D 0 (zQi post px) 60 0 [.ref 0, zU, zU, zU, zU, zU, .int y6] [] M
theorem e_X12_feed {E : zEv} {D : Nat} {post : Int32 → zM → Prop} {px : String → zM → Prop} {M : zM} {x1 : Int32} {x2 : Int32} {x3 : Int32} {x4 : Int32} {x5 : Int32}  (h : ∀ M1 : zM, M1 = zup M 0 0 (0 : Int32) → ((((M1.1 0 9) + (20 : Int32)) ≤ (400 : Int32) → ∀ M6 : zM, M6 = zup M1 7 ((0 : Int32)).toNatClampNeg x1 → ∀ M8 : zM, M8 = zup M6 7 ((1 : Int32)).toNatClampNeg x2 → ∀ M10 : zM, M10 = zup M8 7 ((2 : Int32)).toNatClampNeg x3 → ∀ M12 : zM, M12 = zup M10 7 ((3 : Int32)).toNatClampNeg x4 → ∀ M14 : zM, M14 = zup M12 7 ((4 : Int32)).toNatClampNeg x5 → w_X12_feed_60 E D post px (0 : Int32) M14) ∧ (¬ ((M1.1 0 9) + (20 : Int32)) ≤ (400 : Int32) → post (-1 : Int32) M1))) : zCi E jX12_feed D 0 [.ref 0, .int x1, .int x2, .int x3, .int x4, .int x5] M post px := by
  refine z_meth (by decide) (Nat.le_of_ble_eq_true rfl) ?_
  show Z E jX12_feed D 0 (zQi post px) 0 0 [.ref 0, .int x1, .int x2, .int x3, .int x4, .int x5, zU] [] M
  refine z_aload_n dX12_feed_0 rfl ?_
  refine z_iconst (v := (0 : Int32)) dX12_feed_1 rfl ?_
  refine z_putI dX12_feed_2 zp_X12_3 zs_0 rfl rfl rfl ?_
  generalize hhM1 : zup M 0 0 (0 : Int32) = M1
  have h2 := h M1 hhM1.symm
  refine z_aload_n dX12_feed_5 rfl ?_
  refine z_getI dX12_feed_6 zg_X12_106 zs_0 rfl ?_
  refine z_bipush (v := (20 : Int32)) dX12_feed_9 rfl ?_
  refine z_iadd dX12_feed_11 ?_
  refine z_sipush (v := (400 : Int32)) dX12_feed_12 rfl ?_
  refine z_icmp_le (tgt := 20) dX12_feed_15 (by decide) (fun g3 => ?_) (fun g3 => ?_)
  · have h4 := h2.1 g3
    refine z_aload_n dX12_feed_20 rfl ?_
    refine z_getR dX12_feed_21 zg_X12_36 zs_0 rfl ?_
    refine z_iconst (v := (0 : Int32)) dX12_feed_24 rfl ?_
    refine z_iload_n dX12_feed_25 rfl ?_
    refine z_iast dX12_feed_26 zs_7 (by unfold vp_in; decide) ?_
    generalize hhM6 : zup M1 7 ((0 : Int32)).toNatClampNeg x1 = M6
    have h7 := h4 M6 hhM6.symm
    refine z_aload_n dX12_feed_27 rfl ?_
    refine z_getR dX12_feed_28 zg_X12_36 zs_0 rfl ?_
    refine z_iconst (v := (1 : Int32)) dX12_feed_31 rfl ?_
    refine z_iload_n dX12_feed_32 rfl ?_
    refine z_iast dX12_feed_33 zs_7 (by unfold vp_in; decide) ?_
    generalize hhM8 : zup M6 7 ((1 : Int32)).toNatClampNeg x2 = M8
    have h9 := h7 M8 hhM8.symm
    refine z_aload_n dX12_feed_34 rfl ?_
    refine z_getR dX12_feed_35 zg_X12_36 zs_0 rfl ?_
    refine z_iconst (v := (2 : Int32)) dX12_feed_38 rfl ?_
    refine z_iload_n dX12_feed_39 rfl ?_
    refine z_iast dX12_feed_40 zs_7 (by unfold vp_in; decide) ?_
    generalize hhM10 : zup M8 7 ((2 : Int32)).toNatClampNeg x3 = M10
    have h11 := h9 M10 hhM10.symm
    refine z_aload_n dX12_feed_41 rfl ?_
    refine z_getR dX12_feed_42 zg_X12_36 zs_0 rfl ?_
    refine z_iconst (v := (3 : Int32)) dX12_feed_45 rfl ?_
    refine z_iload dX12_feed_46 rfl ?_
    refine z_iast dX12_feed_48 zs_7 (by unfold vp_in; decide) ?_
    generalize hhM12 : zup M10 7 ((3 : Int32)).toNatClampNeg x4 = M12
    have h13 := h11 M12 hhM12.symm
    refine z_aload_n dX12_feed_49 rfl ?_
    refine z_getR dX12_feed_50 zg_X12_36 zs_0 rfl ?_
    refine z_iconst (v := (4 : Int32)) dX12_feed_53 rfl ?_
    refine z_iload dX12_feed_54 rfl ?_
    refine z_iast dX12_feed_56 zs_7 (by unfold vp_in; decide) ?_
    generalize hhM14 : zup M12 7 ((4 : Int32)).toNatClampNeg x5 = M14
    have h15 := h13 M14 hhM14.symm
    refine z_iconst (v := (0 : Int32)) dX12_feed_57 rfl ?_
    refine z_istore dX12_feed_58 (by decide) (ls' := [.ref 0, .int x1, .int x2, .int x3, .int x4, .int x5, .int (0 : Int32)]) rfl ?_
    refine z_weak [true, false, false, false, false, false, true] (ls' := [.ref 0, zU, zU, zU, zU, zU, .int (0 : Int32)]) rfl rfl ?_
    exact h15
  · have h5 := h2.2 g3
    refine z_iconst (v := (-1 : Int32)) dX12_feed_18 rfl ?_
    exact z_iret dX12_feed_19 rfl rfl (by decide) h5
theorem t_X12_feed_60 {E : zEv} {D : Nat} {post : Int32 → zM → Prop} {px : String → zM → Prop} {M : zM}   {y6 : Int32} (h : (((20 : Int32) ≤ y6 → ∀ M4 : zM, M4 = zup M 0 9 ((M.1 0 9) + (20 : Int32)) → post (M4.1 0 9) M4) ∧ (¬ (20 : Int32) ≤ y6 → vp_in (y6 / (4 : Int32)) 5 ∧ vp_in ((M.1 0 9) + y6) 400 ∧ ∀ M10 : zM, M10 = zup M 6 (((M.1 0 9) + y6)).toNatClampNeg (vp_nar .byte ((((M.1 7 ((y6 / (4 : Int32))).toNatClampNeg) >>> (((24 : Int32) - ((8 : Int32) * (zrem y6 (4 : Int32)))) &&& 31))).toInt8.toInt32)) → w_X12_feed_60 E D post px (y6 + (1 : Int32)) M10))) : w_X12_feed_60 E D post px y6 M := by
  show Z E jX12_feed D 0 (zQi post px) 60 0 [.ref 0, zU, zU, zU, zU, zU, .int y6] [] M
  refine z_iload dX12_feed_60 rfl ?_
  refine z_bipush (v := (20 : Int32)) dX12_feed_62 rfl ?_
  refine z_icmp_ge (tgt := 106) dX12_feed_64 (by decide) (fun g1 => ?_) (fun g1 => ?_)
  · have h2 := h.1 g1
    refine z_aload_n dX12_feed_106 rfl ?_
    refine z_dup dX12_feed_107 rfl ?_
    refine z_getI dX12_feed_108 zg_X12_106 zs_0 rfl ?_
    refine z_bipush (v := (20 : Int32)) dX12_feed_111 rfl ?_
    refine z_iadd dX12_feed_113 ?_
    refine z_putI dX12_feed_114 zp_X12_106 zs_0 rfl rfl rfl ?_
    generalize hhM4 : zup M 0 9 ((M.1 0 9) + (20 : Int32)) = M4
    have h5 := h2 M4 hhM4.symm
    refine z_aload_n dX12_feed_117 rfl ?_
    refine z_getI dX12_feed_118 zg_X12_106 zs_0 rfl ?_
    exact z_iret dX12_feed_121 rfl rfl (by decide) h5
  · have h3 := h.2 g1
    refine z_aload_n dX12_feed_67 rfl ?_
    refine z_getR dX12_feed_68 zg_X12_29 zs_0 rfl ?_
    refine z_aload_n dX12_feed_71 rfl ?_
    refine z_getI dX12_feed_72 zg_X12_106 zs_0 rfl ?_
    refine z_iload dX12_feed_75 rfl ?_
    refine z_iadd dX12_feed_77 ?_
    refine z_aload_n dX12_feed_78 rfl ?_
    refine z_getR dX12_feed_79 zg_X12_36 zs_0 rfl ?_
    refine z_iload dX12_feed_82 rfl ?_
    refine z_iconst (v := (4 : Int32)) dX12_feed_84 rfl ?_
    refine z_idiv dX12_feed_85 (by decide) ?_
    obtain ⟨g7, h6⟩ := h3
    refine z_iald dX12_feed_86 zs_7 g7 ?_
    refine z_bipush (v := (24 : Int32)) dX12_feed_87 rfl ?_
    refine z_bipush (v := (8 : Int32)) dX12_feed_89 rfl ?_
    refine z_iload dX12_feed_91 rfl ?_
    refine z_iconst (v := (4 : Int32)) dX12_feed_93 rfl ?_
    refine z_irem dX12_feed_94 (by decide) ?_
    refine z_imul dX12_feed_95 ?_
    refine z_isub dX12_feed_96 ?_
    refine z_ishr dX12_feed_97 ?_
    refine z_i2b (v := ((((M.1 7 ((y6 / (4 : Int32))).toNatClampNeg) >>> (((24 : Int32) - ((8 : Int32) * (zrem y6 (4 : Int32)))) &&& 31))).toInt8.toInt32)) dX12_feed_98 rfl ?_
    obtain ⟨g9, h8⟩ := h6
    refine z_bast dX12_feed_99 zs_6 g9 ?_
    generalize hhM10 : zup M 6 (((M.1 0 9) + y6)).toNatClampNeg (vp_nar .byte ((((M.1 7 ((y6 / (4 : Int32))).toNatClampNeg) >>> (((24 : Int32) - ((8 : Int32) * (zrem y6 (4 : Int32)))) &&& 31))).toInt8.toInt32)) = M10
    have h11 := h8 M10 hhM10.symm
    refine z_iinc dX12_feed_100 rfl (by decide) (ls' := [.ref 0, zU, zU, zU, zU, zU, .int (y6 + (1 : Int32))]) rfl ?_
    refine z_goto (tgt := 60) dX12_feed_103 (by decide) ?_
    exact h11
def w_X12_end_17 (E : zEv) (D : Nat) (post : Int32 → zM → Prop) (px : String → zM → Prop)   (M : zM) : Prop := Z E jX12_end D 0 (zQi post px) 17 0 [zU, zU] [] M
theorem e_X12_end {E : zEv} {D : Nat} {post : Int32 → zM → Prop} {px : String → zM → Prop} {M : zM} {x1 : Int32}  (h : ∀ M1 : zM, M1 = zup M 0 0 (0 : Int32) → ((x1 < 0 → w_X12_end_17 E D post px  M1) ∧ (¬ x1 < 0 → ((x1 ≤ (M1.1 0 9) → ∀ M9 : zM, M9 = zup M1 0 9 x1 → post (1 : Int32) M9) ∧ (¬ x1 ≤ (M1.1 0 9) → w_X12_end_17 E D post px  M1))))) : zCi E jX12_end D 0 [.ref 0, .int x1] M post px := by
  refine z_meth (by decide) (Nat.le_of_ble_eq_true rfl) ?_
  show Z E jX12_end D 0 (zQi post px) 0 0 [.ref 0, .int x1] [] M
  refine z_aload_n dX12_end_0 rfl ?_
  refine z_iconst (v := (0 : Int32)) dX12_end_1 rfl ?_
  refine z_putI dX12_end_2 zp_X12_3 zs_0 rfl rfl rfl ?_
  generalize hhM1 : zup M 0 0 (0 : Int32) = M1
  have h2 := h M1 hhM1.symm
  refine z_iload_n dX12_end_5 rfl ?_
  refine z_if_lt (tgt := 17) dX12_end_6 (by decide) (fun g3 => ?_) (fun g3 => ?_)
  · have h4 := h2.1 g3
    refine z_weak [false, false] (ls' := [zU, zU]) rfl rfl ?_
    exact h4
  · have h5 := h2.2 g3
    refine z_iload_n dX12_end_9 rfl ?_
    refine z_aload_n dX12_end_10 rfl ?_
    refine z_getI dX12_end_11 zg_X12_106 zs_0 rfl ?_
    refine z_icmp_le (tgt := 19) dX12_end_14 (by decide) (fun g6 => ?_) (fun g6 => ?_)
    · have h7 := h5.1 g6
      refine z_aload_n dX12_end_19 rfl ?_
      refine z_iload_n dX12_end_20 rfl ?_
      refine z_putI dX12_end_21 zp_X12_106 zs_0 rfl rfl rfl ?_
      generalize hhM9 : zup M1 0 9 x1 = M9
      have h10 := h7 M9 hhM9.symm
      refine z_iconst (v := (1 : Int32)) dX12_end_24 rfl ?_
      exact z_iret dX12_end_25 rfl (by decide) (by decide) h10
    · have h8 := h5.2 g6
      refine z_weak [false, false] (ls' := [zU, zU]) rfl rfl ?_
      exact h8
theorem t_X12_end_17 {E : zEv} {D : Nat} {post : Int32 → zM → Prop} {px : String → zM → Prop} {M : zM}    (h : post (0 : Int32) M) : w_X12_end_17 E D post px  M := by
  show Z E jX12_end D 0 (zQi post px) 17 0 [zU, zU] [] M
  refine z_iconst (v := (0 : Int32)) dX12_end_17 rfl ?_
  exact z_iret dX12_end_18 rfl (by decide) (by decide) h
def w_X12_isAt_41 (E : zEv) (D : Nat) (post : Int32 → zM → Prop) (px : String → zM → Prop)   (M : zM) : Prop := Z E jX12_isAt D 0 (zQi post px) 41 0 [zU, zU, zU] [] M
def w_X12_isAt_42 (E : zEv) (D : Nat) (post : Int32 → zM → Prop) (px : String → zM → Prop)  (s0 : Int32) (M : zM) : Prop := Z E jX12_isAt D 0 (zQi post px) 42 0 [zU, zU, zU] [.int s0] M
theorem e_X12_isAt {E : zEv} {D : Nat} {post : Int32 → zM → Prop} {px : String → zM → Prop} {M : zM} {x1 : Int32} {x2 : Int32}  (h : (((M.1 0 11) ≤ (M.1 0 10) → w_X12_isAt_41 E D post px  M) ∧ (¬ (M.1 0 11) ≤ (M.1 0 10) → vp_in (M.1 0 10) 400 ∧ (((M.1 6 ((M.1 0 10)).toNatClampNeg) < x1 → w_X12_isAt_41 E D post px  M) ∧ (¬ (M.1 6 ((M.1 0 10)).toNatClampNeg) < x1 → vp_in (M.1 0 10) 400 ∧ ((x2 < (M.1 6 ((M.1 0 10)).toNatClampNeg) → w_X12_isAt_41 E D post px  M) ∧ (¬ x2 < (M.1 6 ((M.1 0 10)).toNatClampNeg) → w_X12_isAt_42 E D post px (1 : Int32) M))))))) : zCi E jX12_isAt D 0 [.ref 0, .int x1, .int x2] M post px := by
  refine z_meth (by decide) (Nat.le_of_ble_eq_true rfl) ?_
  show Z E jX12_isAt D 0 (zQi post px) 0 0 [.ref 0, .int x1, .int x2] [] M
  refine z_aload_n dX12_isAt_0 rfl ?_
  refine z_getI dX12_isAt_1 zg_X12_109 zs_0 rfl ?_
  refine z_aload_n dX12_isAt_4 rfl ?_
  refine z_getI dX12_isAt_5 zg_X12_112 zs_0 rfl ?_
  refine z_icmp_ge (tgt := 41) dX12_isAt_8 (by decide) (fun g1 => ?_) (fun g1 => ?_)
  · have h2 := h.1 g1
    refine z_weak [false, false, false] (ls' := [zU, zU, zU]) rfl rfl ?_
    exact h2
  · have h3 := h.2 g1
    refine z_aload_n dX12_isAt_11 rfl ?_
    refine z_getR dX12_isAt_12 zg_X12_29 zs_0 rfl ?_
    refine z_aload_n dX12_isAt_15 rfl ?_
    refine z_getI dX12_isAt_16 zg_X12_109 zs_0 rfl ?_
    obtain ⟨g5, h4⟩ := h3
    refine z_bald dX12_isAt_19 zs_6 g5 ?_
    refine z_iload_n dX12_isAt_20 rfl ?_
    refine z_icmp_lt (tgt := 41) dX12_isAt_21 (by decide) (fun g6 => ?_) (fun g6 => ?_)
    · have h7 := h4.1 g6
      refine z_weak [false, false, false] (ls' := [zU, zU, zU]) rfl rfl ?_
      exact h7
    · have h8 := h4.2 g6
      refine z_aload_n dX12_isAt_24 rfl ?_
      refine z_getR dX12_isAt_25 zg_X12_29 zs_0 rfl ?_
      refine z_aload_n dX12_isAt_28 rfl ?_
      refine z_getI dX12_isAt_29 zg_X12_109 zs_0 rfl ?_
      obtain ⟨g10, h9⟩ := h8
      refine z_bald dX12_isAt_32 zs_6 g10 ?_
      refine z_iload_n dX12_isAt_33 rfl ?_
      refine z_icmp_gt (tgt := 41) dX12_isAt_34 (by decide) (fun g11 => ?_) (fun g11 => ?_)
      · have h12 := h9.1 g11
        refine z_weak [false, false, false] (ls' := [zU, zU, zU]) rfl rfl ?_
        exact h12
      · have h13 := h9.2 g11
        refine z_iconst (v := (1 : Int32)) dX12_isAt_37 rfl ?_
        refine z_goto (tgt := 42) dX12_isAt_38 (by decide) ?_
        refine z_weak [false, false, false] (ls' := [zU, zU, zU]) rfl rfl ?_
        exact h13
theorem t_X12_isAt_41 {E : zEv} {D : Nat} {post : Int32 → zM → Prop} {px : String → zM → Prop} {M : zM}    (h : w_X12_isAt_42 E D post px (0 : Int32) M) : w_X12_isAt_41 E D post px  M := by
  show Z E jX12_isAt D 0 (zQi post px) 41 0 [zU, zU, zU] [] M
  refine z_iconst (v := (0 : Int32)) dX12_isAt_41 rfl ?_
  exact h
theorem t_X12_isAt_42 {E : zEv} {D : Nat} {post : Int32 → zM → Prop} {px : String → zM → Prop} {M : zM}   {s0 : Int32} (h : (s0 = 0 ∨ s0 = 1) ∧ post s0 M) : w_X12_isAt_42 E D post px s0 M := by
  show Z E jX12_isAt D 0 (zQi post px) 42 0 [zU, zU, zU] [.int s0] M
  obtain ⟨g2, h1⟩ := h
  exact z_iret dX12_isAt_42 rfl (zbool g2) (by decide) h1
def w_X12_blanks_0 (E : zEv) (D : Nat) (post : zM → Prop) (px : String → zM → Prop)   (M : zM) : Prop := Z E jX12_blanks (D + 1) 0 (zQv post px) 0 0 [.ref 0] [] M
theorem e_X12_blanks {E : zEv} {D : Nat} {post : zM → Prop} {px : String → zM → Prop} {M : zM}   (h : w_X12_blanks_0 E D post px  M) : zCv E jX12_blanks (D + 1) 0 [.ref 0] M post px := by
  refine z_meth (by decide) (Nat.le_of_ble_eq_true rfl) ?_
  show Z E jX12_blanks (D + 1) 0 (zQv post px) 0 0 [.ref 0] [] M
  exact h
theorem t_X12_blanks_0 {E : zEv} {D : Nat} {post : zM → Prop} {px : String → zM → Prop} {M : zM}    (h : zCi E jX12_isAt D 0 [.ref 0, .int (32 : Int32), .int (32 : Int32)] M (fun r3 M1 => ((r3 = 0 → ∀ M7 : zM, M7 = zup M1 0 12 (M1.1 0 10) → post M7) ∧ (¬ r3 = 0 → ∀ M9 : zM, M9 = zup M1 0 10 ((M1.1 0 10) + (1 : Int32)) → w_X12_blanks_0 E D post px  M9))) px) : w_X12_blanks_0 E D post px  M := by
  show Z E jX12_blanks (D + 1) 0 (zQv post px) 0 0 [.ref 0] [] M
  refine z_aload_n dX12_blanks_0 rfl ?_
  refine z_bipush (v := (32 : Int32)) dX12_blanks_1 rfl ?_
  refine z_bipush (v := (32 : Int32)) dX12_blanks_3 rfl ?_
  refine z_callVi (As := [.int (32 : Int32), .int (32 : Int32)]) (st := []) dX12_blanks_5 zi_X12_115 rfl rfl zs_0 rfl rfl (Nat.le_of_ble_eq_true rfl) (by decide) (fun _ _ hx => hx) h ?_
  intro r3 M1 h2
  refine z_if_eq (tgt := 24) dX12_blanks_8 (by decide) (fun g4 => ?_) (fun g4 => ?_)
  · have h5 := h2.1 g4
    refine z_aload_n dX12_blanks_24 rfl ?_
    refine z_aload_n dX12_blanks_25 rfl ?_
    refine z_getI dX12_blanks_26 zg_X12_109 zs_0 rfl ?_
    refine z_putI dX12_blanks_29 zp_X12_119 zs_0 rfl rfl rfl ?_
    generalize hhM7 : zup M1 0 12 (M1.1 0 10) = M7
    have h8 := h5 M7 hhM7.symm
    exact z_vret dX12_blanks_32 rfl (by decide) h8
  · have h6 := h2.2 g4
    refine z_aload_n dX12_blanks_11 rfl ?_
    refine z_dup dX12_blanks_12 rfl ?_
    refine z_getI dX12_blanks_13 zg_X12_109 zs_0 rfl ?_
    refine z_iconst (v := (1 : Int32)) dX12_blanks_16 rfl ?_
    refine z_iadd dX12_blanks_17 ?_
    refine z_putI dX12_blanks_18 zp_X12_109 zs_0 rfl rfl rfl ?_
    generalize hhM9 : zup M1 0 10 ((M1.1 0 10) + (1 : Int32)) = M9
    have h10 := h6 M9 hhM9.symm
    refine z_goto (tgt := 0) dX12_blanks_21 (by decide) ?_
    exact h10
def w_X12_letters_4 (E : zEv) (D : Nat) (post : zM → Prop) (px : String → zM → Prop)   (M : zM) : Prop := Z E jX12_letters (D + 1) 0 (zQv post px) 4 0 [.ref 0] [] M
theorem e_X12_letters {E : zEv} {D : Nat} {post : zM → Prop} {px : String → zM → Prop} {M : zM}   (h : zCv E jX12_blanks D 0 [.ref 0] M (fun M1 => w_X12_letters_4 E D post px  M1) px) : zCv E jX12_letters (D + 1) 0 [.ref 0] M post px := by
  refine z_meth (by decide) (Nat.le_of_ble_eq_true rfl) ?_
  show Z E jX12_letters (D + 1) 0 (zQv post px) 0 0 [.ref 0] [] M
  refine z_aload_n dX12_letters_0 rfl ?_
  refine z_callVv (As := []) (st := []) dX12_letters_1 zi_X12_122 rfl rfl zs_0 rfl rfl (Nat.le_of_ble_eq_true rfl) (by decide) (fun _ _ hx => hx) h ?_
  intro M1 h2
  exact h2
theorem t_X12_letters_4 {E : zEv} {D : Nat} {post : zM → Prop} {px : String → zM → Prop} {M : zM}    (h : zCi E jX12_isAt D 0 [.ref 0, .int (97 : Int32), .int (122 : Int32)] M (fun r3 M1 => ((r3 = 0 → post M1) ∧ (¬ r3 = 0 → ∀ M7 : zM, M7 = zup M1 0 10 ((M1.1 0 10) + (1 : Int32)) → w_X12_letters_4 E D post px  M7))) px) : w_X12_letters_4 E D post px  M := by
  show Z E jX12_letters (D + 1) 0 (zQv post px) 4 0 [.ref 0] [] M
  refine z_aload_n dX12_letters_4 rfl ?_
  refine z_bipush (v := (97 : Int32)) dX12_letters_5 rfl ?_
  refine z_bipush (v := (122 : Int32)) dX12_letters_7 rfl ?_
  refine z_callVi (As := [.int (97 : Int32), .int (122 : Int32)]) (st := []) dX12_letters_9 zi_X12_115 rfl rfl zs_0 rfl rfl (Nat.le_of_ble_eq_true rfl) (by decide) (fun _ _ hx => hx) h ?_
  intro r3 M1 h2
  refine z_if_eq (tgt := 28) dX12_letters_12 (by decide) (fun g4 => ?_) (fun g4 => ?_)
  · have h5 := h2.1 g4
    exact z_vret dX12_letters_28 rfl (by decide) h5
  · have h6 := h2.2 g4
    refine z_aload_n dX12_letters_15 rfl ?_
    refine z_dup dX12_letters_16 rfl ?_
    refine z_getI dX12_letters_17 zg_X12_109 zs_0 rfl ?_
    refine z_iconst (v := (1 : Int32)) dX12_letters_20 rfl ?_
    refine z_iadd dX12_letters_21 ?_
    refine z_putI dX12_letters_22 zp_X12_109 zs_0 rfl rfl rfl ?_
    generalize hhM7 : zup M1 0 10 ((M1.1 0 10) + (1 : Int32)) = M7
    have h8 := h6 M7 hhM7.symm
    refine z_goto (tgt := 4) dX12_letters_25 (by decide) ?_
    exact h8
def w_X12_isWord_21 (E : zEv) (D : Nat) (post : Int32 → zM → Prop) (px : String → zM → Prop) (w : Nat) (s0 : Int32) (M : zM) : Prop := Z E jX12_isWord (D + 1) 0 (zQi post px) 21 0 [.ref 0, .ref (271 + w), zU, zU] [.int s0] M
def w_X12_isWord_24 (E : zEv) (D : Nat) (post : Int32 → zM → Prop) (px : String → zM → Prop) (w : Nat) (y2 : Int32) (y3 : Int32) (M : zM) : Prop := Z E jX12_isWord (D + 1) 0 (zQi post px) 24 0 [.ref 0, .ref (271 + w), .int y2, .int y3] [] M
def w_X12_isWord_67 (E : zEv) (D : Nat) (post : Int32 → zM → Prop) (px : String → zM → Prop) (w : Nat) (y2 : Int32) (M : zM) : Prop := Z E jX12_isWord (D + 1) 0 (zQi post px) 67 0 [zU, zU, .int y2, zU] [] M
def w_X12_isWord_60 (E : zEv) (D : Nat) (post : Int32 → zM → Prop) (px : String → zM → Prop) (w : Nat) (y3 : Int32) (s0 : Int32) (M : zM) : Prop := Z E jX12_isWord (D + 1) 0 (zQi post px) 60 0 [.ref 0, .ref (271 + w), zU, .int y3] [.int s0] M
theorem e_X12_isWord {E : zEv} {D : Nat} {post : Int32 → zM → Prop} {px : String → zM → Prop} {M : zM} {w : Nat}  (h : w < zLitN ∧ zCi E jJ0_length_8abf5 D 0 [.ref (271 + w)] M (fun r5 M3 => ((¬ ((M.1 0 10) - (M.1 0 12)) = r5 → w_X12_isWord_21 E D post px w (0 : Int32) M3) ∧ (((M.1 0 10) - (M.1 0 12)) = r5 → w_X12_isWord_21 E D post px w (1 : Int32) M3))) px) : zCi E jX12_isWord (D + 1) 0 [.ref 0, .ref (271 + w)] M post px := by
  refine z_meth (by decide) (Nat.le_of_ble_eq_true rfl) ?_
  show Z E jX12_isWord (D + 1) 0 (zQi post px) 0 0 [.ref 0, .ref (271 + w), zU, zU] [] M
  refine z_aload_n dX12_isWord_0 rfl ?_
  refine z_getI dX12_isWord_1 zg_X12_109 zs_0 rfl ?_
  refine z_aload_n dX12_isWord_4 rfl ?_
  refine z_getI dX12_isWord_5 zg_X12_119 zs_0 rfl ?_
  refine z_isub dX12_isWord_8 ?_
  refine z_aload_n dX12_isWord_9 rfl ?_
  obtain ⟨g2, h1⟩ := h
  refine z_callStri (As := []) (st := [.int ((M.1 0 10) - (M.1 0 12))]) dX12_isWord_10 zi_X12_125 rfl rfl rfl g2 (Nat.le_of_ble_eq_true rfl) (by decide) (fun _ _ hx => hx) h1 ?_
  intro r5 M3 h4
  refine z_icmp_ne (tgt := 20) dX12_isWord_13 (by decide) (fun g6 => ?_) (fun g6 => ?_)
  · have h7 := h4.1 g6
    refine z_iconst (v := (0 : Int32)) dX12_isWord_20 rfl ?_
    exact h7
  · have h8 := h4.2 g6
    refine z_iconst (v := (1 : Int32)) dX12_isWord_16 rfl ?_
    refine z_goto (tgt := 21) dX12_isWord_17 (by decide) ?_
    exact h8
theorem t_X12_isWord_21 {E : zEv} {D : Nat} {post : Int32 → zM → Prop} {px : String → zM → Prop} {M : zM} {w : Nat}  {s0 : Int32} (h : w_X12_isWord_24 E D post px w s0 (0 : Int32) M) : w_X12_isWord_21 E D post px w s0 M := by
  show Z E jX12_isWord (D + 1) 0 (zQi post px) 21 0 [.ref 0, .ref (271 + w), zU, zU] [.int s0] M
  refine z_istore_n dX12_isWord_21 (by decide) (ls' := [.ref 0, .ref (271 + w), .int s0, zU]) rfl ?_
  refine z_iconst (v := (0 : Int32)) dX12_isWord_22 rfl ?_
  refine z_istore_n dX12_isWord_23 (by decide) (ls' := [.ref 0, .ref (271 + w), .int s0, .int (0 : Int32)]) rfl ?_
  exact h
theorem t_X12_isWord_24 {E : zEv} {D : Nat} {post : Int32 → zM → Prop} {px : String → zM → Prop} {M : zM} {w : Nat}  {y2 : Int32} {y3 : Int32} (h : ((y2 = 0 → w_X12_isWord_67 E D post px w y2 M) ∧ (¬ y2 = 0 → w < zLitN ∧ zCi E jJ0_length_8abf5 D 0 [.ref (271 + w)] M (fun r8 M6 => ((r8 ≤ y3 → w_X12_isWord_67 E D post px w y2 M6) ∧ (¬ r8 ≤ y3 → vp_in ((M6.1 0 12) + y3) 400 ∧ w < zLitN ∧ zCi E jJ0_charAt_5068e D 0 [.ref (271 + w), .int y3] M6 (fun r18 M16 => ((¬ (M6.1 6 (((M6.1 0 12) + y3)).toNatClampNeg) = r18 → w_X12_isWord_60 E D post px w y3 (0 : Int32) M16) ∧ ((M6.1 6 (((M6.1 0 12) + y3)).toNatClampNeg) = r18 → w_X12_isWord_60 E D post px w y3 (1 : Int32) M16))) px))) px))) : w_X12_isWord_24 E D post px w y2 y3 M := by
  show Z E jX12_isWord (D + 1) 0 (zQi post px) 24 0 [.ref 0, .ref (271 + w), .int y2, .int y3] [] M
  refine z_iload_n dX12_isWord_24 rfl ?_
  refine z_if_eq (tgt := 67) dX12_isWord_25 (by decide) (fun g1 => ?_) (fun g1 => ?_)
  · have h2 := h.1 g1
    refine z_weak [false, false, true, false] (ls' := [zU, zU, .int y2, zU]) rfl rfl ?_
    exact h2
  · have h3 := h.2 g1
    refine z_iload_n dX12_isWord_28 rfl ?_
    refine z_aload_n dX12_isWord_29 rfl ?_
    obtain ⟨g5, h4⟩ := h3
    refine z_callStri (As := []) (st := [.int y3]) dX12_isWord_30 zi_X12_125 rfl rfl rfl g5 (Nat.le_of_ble_eq_true rfl) (by decide) (fun _ _ hx => hx) h4 ?_
    intro r8 M6 h7
    refine z_icmp_ge (tgt := 67) dX12_isWord_33 (by decide) (fun g9 => ?_) (fun g9 => ?_)
    · have h10 := h7.1 g9
      refine z_weak [false, false, true, false] (ls' := [zU, zU, .int y2, zU]) rfl rfl ?_
      exact h10
    · have h11 := h7.2 g9
      refine z_aload_n dX12_isWord_36 rfl ?_
      refine z_getR dX12_isWord_37 zg_X12_29 zs_0 rfl ?_
      refine z_aload_n dX12_isWord_40 rfl ?_
      refine z_getI dX12_isWord_41 zg_X12_119 zs_0 rfl ?_
      refine z_iload_n dX12_isWord_44 rfl ?_
      refine z_iadd dX12_isWord_45 ?_
      obtain ⟨g13, h12⟩ := h11
      refine z_bald dX12_isWord_46 zs_6 g13 ?_
      refine z_aload_n dX12_isWord_47 rfl ?_
      refine z_iload_n dX12_isWord_48 rfl ?_
      obtain ⟨g15, h14⟩ := h12
      refine z_callStri (As := [.int y3]) (st := [.int (M6.1 6 (((M6.1 0 12) + y3)).toNatClampNeg)]) dX12_isWord_49 zi_X12_130 rfl rfl rfl g15 (Nat.le_of_ble_eq_true rfl) (by decide) (fun _ _ hx => hx) h14 ?_
      intro r18 M16 h17
      refine z_icmp_ne (tgt := 59) dX12_isWord_52 (by decide) (fun g19 => ?_) (fun g19 => ?_)
      · have h20 := h17.1 g19
        refine z_iconst (v := (0 : Int32)) dX12_isWord_59 rfl ?_
        refine z_weak [true, true, false, true] (ls' := [.ref 0, .ref (271 + w), zU, .int y3]) rfl rfl ?_
        exact h20
      · have h21 := h17.2 g19
        refine z_iconst (v := (1 : Int32)) dX12_isWord_55 rfl ?_
        refine z_goto (tgt := 60) dX12_isWord_56 (by decide) ?_
        refine z_weak [true, true, false, true] (ls' := [.ref 0, .ref (271 + w), zU, .int y3]) rfl rfl ?_
        exact h21
theorem t_X12_isWord_67 {E : zEv} {D : Nat} {post : Int32 → zM → Prop} {px : String → zM → Prop} {M : zM} {w : Nat}  {y2 : Int32} (h : (y2 = 0 ∨ y2 = 1) ∧ post y2 M) : w_X12_isWord_67 E D post px w y2 M := by
  show Z E jX12_isWord (D + 1) 0 (zQi post px) 67 0 [zU, zU, .int y2, zU] [] M
  refine z_iload_n dX12_isWord_67 rfl ?_
  obtain ⟨g2, h1⟩ := h
  exact z_iret dX12_isWord_68 rfl (zbool g2) (by decide) h1
theorem t_X12_isWord_60 {E : zEv} {D : Nat} {post : Int32 → zM → Prop} {px : String → zM → Prop} {M : zM} {w : Nat}  {y3 : Int32} {s0 : Int32} (h : w_X12_isWord_24 E D post px w s0 (y3 + (1 : Int32)) M) : w_X12_isWord_60 E D post px w y3 s0 M := by
  show Z E jX12_isWord (D + 1) 0 (zQi post px) 60 0 [.ref 0, .ref (271 + w), zU, .int y3] [.int s0] M
  refine z_istore_n dX12_isWord_60 (by decide) (ls' := [.ref 0, .ref (271 + w), .int s0, .int y3]) rfl ?_
  refine z_iinc dX12_isWord_61 rfl (by decide) (ls' := [.ref 0, .ref (271 + w), .int s0, .int (y3 + (1 : Int32))]) rfl ?_
  refine z_goto (tgt := 24) dX12_isWord_64 (by decide) ?_
  exact h
theorem e_X12_passes {E : zEv} {D : Nat} {post : Int32 → zM → Prop} {px : String → zM → Prop} {M : zM} {w : Nat}  (h : zCv E jX12_letters D 0 [.ref 0] M (fun M1 => zCi E jX12_isWord D 0 [.ref 0, .ref (271 + w)] M1 (fun r5 M3 => ((r5 = 0 → ∀ M9 : zM, M9 = zup M3 0 10 (M3.1 0 12) → post (0 : Int32) M9) ∧ (¬ r5 = 0 → post (1 : Int32) M3))) px) px) : zCi E jX12_passes (D + 1) 0 [.ref 0, .ref (271 + w)] M post px := by
  refine z_meth (by decide) (Nat.le_of_ble_eq_true rfl) ?_
  show Z E jX12_passes (D + 1) 0 (zQi post px) 0 0 [.ref 0, .ref (271 + w)] [] M
  refine z_aload_n dX12_passes_0 rfl ?_
  refine z_callVv (As := []) (st := []) dX12_passes_1 zi_X12_134 rfl rfl zs_0 rfl rfl (Nat.le_of_ble_eq_true rfl) (by decide) (fun _ _ hx => hx) h ?_
  intro M1 h2
  refine z_aload_n dX12_passes_4 rfl ?_
  refine z_aload_n dX12_passes_5 rfl ?_
  refine z_callVi (As := [.ref (271 + w)]) (st := []) dX12_passes_6 zi_X12_137 rfl rfl zs_0 rfl rfl (Nat.le_of_ble_eq_true rfl) (by decide) (fun _ _ hx => hx) h2 ?_
  intro r5 M3 h4
  refine z_if_eq (tgt := 14) dX12_passes_9 (by decide) (fun g6 => ?_) (fun g6 => ?_)
  · have h7 := h4.1 g6
    refine z_aload_n dX12_passes_14 rfl ?_
    refine z_aload_n dX12_passes_15 rfl ?_
    refine z_getI dX12_passes_16 zg_X12_119 zs_0 rfl ?_
    refine z_putI dX12_passes_19 zp_X12_109 zs_0 rfl rfl rfl ?_
    generalize hhM9 : zup M3 0 10 (M3.1 0 12) = M9
    have h10 := h7 M9 hhM9.symm
    refine z_iconst (v := (0 : Int32)) dX12_passes_22 rfl ?_
    exact z_iret dX12_passes_23 rfl (by decide) (by decide) h10
  · have h8 := h4.2 g6
    refine z_iconst (v := (1 : Int32)) dX12_passes_12 rfl ?_
    exact z_iret dX12_passes_13 rfl (by decide) (by decide) h8
theorem e_X12_sign {E : zEv} {D : Nat} {post : Int32 → zM → Prop} {px : String → zM → Prop} {M : zM} {x1 : Int32}  (h : zCv E jX12_blanks D 0 [.ref 0] M (fun M1 => zCi E jX12_isAt D 0 [.ref 0, .int x1, .int x1] M1 (fun r5 M3 => ((¬ r5 = 0 → ∀ M9 : zM, M9 = zup M3 0 10 ((M3.1 0 10) + (1 : Int32)) → post (1 : Int32) M9) ∧ (r5 = 0 → post (0 : Int32) M3))) px) px) : zCi E jX12_sign (D + 1) 0 [.ref 0, .int x1] M post px := by
  refine z_meth (by decide) (Nat.le_of_ble_eq_true rfl) ?_
  show Z E jX12_sign (D + 1) 0 (zQi post px) 0 0 [.ref 0, .int x1] [] M
  refine z_aload_n dX12_sign_0 rfl ?_
  refine z_callVv (As := []) (st := []) dX12_sign_1 zi_X12_122 rfl rfl zs_0 rfl rfl (Nat.le_of_ble_eq_true rfl) (by decide) (fun _ _ hx => hx) h ?_
  intro M1 h2
  refine z_aload_n dX12_sign_4 rfl ?_
  refine z_iload_n dX12_sign_5 rfl ?_
  refine z_iload_n dX12_sign_6 rfl ?_
  refine z_callVi (As := [.int x1, .int x1]) (st := []) dX12_sign_7 zi_X12_115 rfl rfl zs_0 rfl rfl (Nat.le_of_ble_eq_true rfl) (by decide) (fun _ _ hx => hx) h2 ?_
  intro r5 M3 h4
  refine z_if_ne (tgt := 15) dX12_sign_10 (by decide) (fun g6 => ?_) (fun g6 => ?_)
  · have h7 := h4.1 g6
    refine z_aload_n dX12_sign_15 rfl ?_
    refine z_dup dX12_sign_16 rfl ?_
    refine z_getI dX12_sign_17 zg_X12_109 zs_0 rfl ?_
    refine z_iconst (v := (1 : Int32)) dX12_sign_20 rfl ?_
    refine z_iadd dX12_sign_21 ?_
    refine z_putI dX12_sign_22 zp_X12_109 zs_0 rfl rfl rfl ?_
    generalize hhM9 : zup M3 0 10 ((M3.1 0 10) + (1 : Int32)) = M9
    have h10 := h7 M9 hhM9.symm
    refine z_iconst (v := (1 : Int32)) dX12_sign_25 rfl ?_
    exact z_iret dX12_sign_26 rfl (by decide) (by decide) h10
  · have h8 := h4.2 g6
    refine z_iconst (v := (0 : Int32)) dX12_sign_13 rfl ?_
    exact z_iret dX12_sign_14 rfl (by decide) (by decide) h8
def w_X12_number_6 (E : zEv) (D : Nat) (post : Int32 → zM → Prop) (px : String → zM → Prop)  (y1 : Int32) (y2 : Int32) (y3 : Int32) (M : zM) : Prop := Z E jX12_number (D + 1) 0 (zQi post px) 6 0 [.ref 0, .int y1, .int y2, .int y3] [] M
def w_X12_number_99 (E : zEv) (D : Nat) (post : Int32 → zM → Prop) (px : String → zM → Prop)   (M : zM) : Prop := Z E jX12_number (D + 1) 0 (zQi post px) 99 0 [zU, zU, zU, zU] [] M
def w_X12_number_104 (E : zEv) (D : Nat) (post : Int32 → zM → Prop) (px : String → zM → Prop)  (s0 : Int32) (M : zM) : Prop := Z E jX12_number (D + 1) 0 (zQi post px) 104 0 [zU, zU, zU, zU] [.int s0] M
def w_X12_number_51 (E : zEv) (D : Nat) (post : Int32 → zM → Prop) (px : String → zM → Prop)  (y1 : Int32) (y2 : Int32) (s0 : Int32) (M : zM) : Prop := Z E jX12_number (D + 1) 0 (zQi post px) 51 0 [.ref 0, .int y1, .int y2, zU] [.int s0] M
theorem e_X12_number {E : zEv} {D : Nat} {post : Int32 → zM → Prop} {px : String → zM → Prop} {M : zM} {x1 : Int32} {x2 : Int32}  (h : zCv E jX12_blanks D 0 [.ref 0] M (fun M1 => w_X12_number_6 E D post px x1 x2 (0 : Int32) M1) px) : zCi E jX12_number (D + 1) 0 [.ref 0, .int x1, .int x2] M post px := by
  refine z_meth (by decide) (Nat.le_of_ble_eq_true rfl) ?_
  show Z E jX12_number (D + 1) 0 (zQi post px) 0 0 [.ref 0, .int x1, .int x2, zU] [] M
  refine z_aload_n dX12_number_0 rfl ?_
  refine z_callVv (As := []) (st := []) dX12_number_1 zi_X12_122 rfl rfl zs_0 rfl rfl (Nat.le_of_ble_eq_true rfl) (by decide) (fun _ _ hx => hx) h ?_
  intro M1 h2
  refine z_iconst (v := (0 : Int32)) dX12_number_4 rfl ?_
  refine z_istore_n dX12_number_5 (by decide) (ls' := [.ref 0, .int x1, .int x2, .int (0 : Int32)]) rfl ?_
  exact h2
theorem t_X12_number_6 {E : zEv} {D : Nat} {post : Int32 → zM → Prop} {px : String → zM → Prop} {M : zM}   {y1 : Int32} {y2 : Int32} {y3 : Int32} (h : zCi E jX12_isAt D 0 [.ref 0, .int (48 : Int32), .int (57 : Int32)] M (fun r3 M1 => ((r3 = 0 → (((M1.1 0 10) = (M1.1 0 12) → w_X12_number_99 E D post px  M1) ∧ (¬ (M1.1 0 10) = (M1.1 0 12) → (((3 : Int32) < ((M1.1 0 10) - (M1.1 0 12)) → w_X12_number_99 E D post px  M1) ∧ (¬ (3 : Int32) < ((M1.1 0 10) - (M1.1 0 12)) → ((y3 < y1 → w_X12_number_99 E D post px  M1) ∧ (¬ y3 < y1 → ((y3 ≤ y2 → w_X12_number_104 E D post px y3 M1) ∧ (¬ y3 ≤ y2 → w_X12_number_99 E D post px  M1))))))))) ∧ (¬ r3 = 0 → (((3 : Int32) ≤ ((M1.1 0 10) - (M1.1 0 12)) → w_X12_number_51 E D post px y1 y2 y3 M1) ∧ (¬ (3 : Int32) ≤ ((M1.1 0 10) - (M1.1 0 12)) → vp_in (M1.1 0 10) 400 ∧ w_X12_number_51 E D post px y1 y2 ((((10 : Int32) * y3) + (M1.1 6 ((M1.1 0 10)).toNatClampNeg)) - (48 : Int32)) M1))))) px) : w_X12_number_6 E D post px y1 y2 y3 M := by
  show Z E jX12_number (D + 1) 0 (zQi post px) 6 0 [.ref 0, .int y1, .int y2, .int y3] [] M
  refine z_aload_n dX12_number_6 rfl ?_
  refine z_bipush (v := (48 : Int32)) dX12_number_7 rfl ?_
  refine z_bipush (v := (57 : Int32)) dX12_number_9 rfl ?_
  refine z_callVi (As := [.int (48 : Int32), .int (57 : Int32)]) (st := []) dX12_number_11 zi_X12_115 rfl rfl zs_0 rfl rfl (Nat.le_of_ble_eq_true rfl) (by decide) (fun _ _ hx => hx) h ?_
  intro r3 M1 h2
  refine z_if_eq (tgt := 65) dX12_number_14 (by decide) (fun g4 => ?_) (fun g4 => ?_)
  · have h5 := h2.1 g4
    refine z_aload_n dX12_number_65 rfl ?_
    refine z_getI dX12_number_66 zg_X12_109 zs_0 rfl ?_
    refine z_aload_n dX12_number_69 rfl ?_
    refine z_getI dX12_number_70 zg_X12_119 zs_0 rfl ?_
    refine z_icmp_eq (tgt := 99) dX12_number_73 (by decide) (fun g7 => ?_) (fun g7 => ?_)
    · have h8 := h5.1 g7
      refine z_weak [false, false, false, false] (ls' := [zU, zU, zU, zU]) rfl rfl ?_
      exact h8
    · have h9 := h5.2 g7
      refine z_aload_n dX12_number_76 rfl ?_
      refine z_getI dX12_number_77 zg_X12_109 zs_0 rfl ?_
      refine z_aload_n dX12_number_80 rfl ?_
      refine z_getI dX12_number_81 zg_X12_119 zs_0 rfl ?_
      refine z_isub dX12_number_84 ?_
      refine z_iconst (v := (3 : Int32)) dX12_number_85 rfl ?_
      refine z_icmp_gt (tgt := 99) dX12_number_86 (by decide) (fun g10 => ?_) (fun g10 => ?_)
      · have h11 := h9.1 g10
        refine z_weak [false, false, false, false] (ls' := [zU, zU, zU, zU]) rfl rfl ?_
        exact h11
      · have h12 := h9.2 g10
        refine z_iload_n dX12_number_89 rfl ?_
        refine z_iload_n dX12_number_90 rfl ?_
        refine z_icmp_lt (tgt := 99) dX12_number_91 (by decide) (fun g13 => ?_) (fun g13 => ?_)
        · have h14 := h12.1 g13
          refine z_weak [false, false, false, false] (ls' := [zU, zU, zU, zU]) rfl rfl ?_
          exact h14
        · have h15 := h12.2 g13
          refine z_iload_n dX12_number_94 rfl ?_
          refine z_iload_n dX12_number_95 rfl ?_
          refine z_icmp_le (tgt := 103) dX12_number_96 (by decide) (fun g16 => ?_) (fun g16 => ?_)
          · have h17 := h15.1 g16
            refine z_iload_n dX12_number_103 rfl ?_
            refine z_weak [false, false, false, false] (ls' := [zU, zU, zU, zU]) rfl rfl ?_
            exact h17
          · have h18 := h15.2 g16
            refine z_weak [false, false, false, false] (ls' := [zU, zU, zU, zU]) rfl rfl ?_
            exact h18
  · have h6 := h2.2 g4
    refine z_aload_n dX12_number_17 rfl ?_
    refine z_getI dX12_number_18 zg_X12_109 zs_0 rfl ?_
    refine z_aload_n dX12_number_21 rfl ?_
    refine z_getI dX12_number_22 zg_X12_119 zs_0 rfl ?_
    refine z_isub dX12_number_25 ?_
    refine z_iconst (v := (3 : Int32)) dX12_number_26 rfl ?_
    refine z_icmp_ge (tgt := 50) dX12_number_27 (by decide) (fun g19 => ?_) (fun g19 => ?_)
    · have h20 := h6.1 g19
      refine z_iload_n dX12_number_50 rfl ?_
      refine z_weak [true, true, true, false] (ls' := [.ref 0, .int y1, .int y2, zU]) rfl rfl ?_
      exact h20
    · have h21 := h6.2 g19
      refine z_bipush (v := (10 : Int32)) dX12_number_30 rfl ?_
      refine z_iload_n dX12_number_32 rfl ?_
      refine z_imul dX12_number_33 ?_
      refine z_aload_n dX12_number_34 rfl ?_
      refine z_getR dX12_number_35 zg_X12_29 zs_0 rfl ?_
      refine z_aload_n dX12_number_38 rfl ?_
      refine z_getI dX12_number_39 zg_X12_109 zs_0 rfl ?_
      obtain ⟨g23, h22⟩ := h21
      refine z_bald dX12_number_42 zs_6 g23 ?_
      refine z_iadd dX12_number_43 ?_
      refine z_bipush (v := (48 : Int32)) dX12_number_44 rfl ?_
      refine z_isub dX12_number_46 ?_
      refine z_goto (tgt := 51) dX12_number_47 (by decide) ?_
      refine z_weak [true, true, true, false] (ls' := [.ref 0, .int y1, .int y2, zU]) rfl rfl ?_
      exact h22
theorem t_X12_number_99 {E : zEv} {D : Nat} {post : Int32 → zM → Prop} {px : String → zM → Prop} {M : zM}    (h : w_X12_number_104 E D post px (-1 : Int32) M) : w_X12_number_99 E D post px  M := by
  show Z E jX12_number (D + 1) 0 (zQi post px) 99 0 [zU, zU, zU, zU] [] M
  refine z_iconst (v := (-1 : Int32)) dX12_number_99 rfl ?_
  refine z_goto (tgt := 104) dX12_number_100 (by decide) ?_
  exact h
theorem t_X12_number_104 {E : zEv} {D : Nat} {post : Int32 → zM → Prop} {px : String → zM → Prop} {M : zM}   {s0 : Int32} (h : post s0 M) : w_X12_number_104 E D post px s0 M := by
  show Z E jX12_number (D + 1) 0 (zQi post px) 104 0 [zU, zU, zU, zU] [.int s0] M
  exact z_iret dX12_number_104 rfl rfl (by decide) h
theorem t_X12_number_51 {E : zEv} {D : Nat} {post : Int32 → zM → Prop} {px : String → zM → Prop} {M : zM}   {y1 : Int32} {y2 : Int32} {s0 : Int32} (h : ∀ M1 : zM, M1 = zup M 0 10 ((M.1 0 10) + (1 : Int32)) → w_X12_number_6 E D post px y1 y2 s0 M1) : w_X12_number_51 E D post px y1 y2 s0 M := by
  show Z E jX12_number (D + 1) 0 (zQi post px) 51 0 [.ref 0, .int y1, .int y2, zU] [.int s0] M
  refine z_istore_n dX12_number_51 (by decide) (ls' := [.ref 0, .int y1, .int y2, .int s0]) rfl ?_
  refine z_aload_n dX12_number_52 rfl ?_
  refine z_dup dX12_number_53 rfl ?_
  refine z_getI dX12_number_54 zg_X12_109 zs_0 rfl ?_
  refine z_iconst (v := (1 : Int32)) dX12_number_57 rfl ?_
  refine z_iadd dX12_number_58 ?_
  refine z_putI dX12_number_59 zp_X12_109 zs_0 rfl rfl rfl ?_
  generalize hhM1 : zup M 0 10 ((M.1 0 10) + (1 : Int32)) = M1
  have h2 := h M1 hhM1.symm
  refine z_goto (tgt := 6) dX12_number_62 (by decide) ?_
  exact h2
def w_X12_behind_22 (E : zEv) (D : Nat) (post : Int32 → zM → Prop) (px : String → zM → Prop) (w : Nat) (s0 : Int32) (M : zM) : Prop := Z E jX12_behind (D + 1) 0 (zQi post px) 22 0 [zU, zU, zU, zU] [.int s0] M
theorem e_X12_behind {E : zEv} {D : Nat} {post : Int32 → zM → Prop} {px : String → zM → Prop} {M : zM} {w : Nat} {x2 : Int32} {x3 : Int32}  (h : zCv E jX12_letters D 0 [.ref 0] M (fun M1 => zCi E jX12_isWord D 0 [.ref 0, .ref (271 + w)] M1 (fun r5 M3 => ((r5 = 0 → w_X12_behind_22 E D post px w (-1 : Int32) M3) ∧ (¬ r5 = 0 → zCi E jX12_number D 0 [.ref 0, .int x2, .int x3] M3 (fun r11 M9 => w_X12_behind_22 E D post px w r11 M9) px))) px) px) : zCi E jX12_behind (D + 1) 0 [.ref 0, .ref (271 + w), .int x2, .int x3] M post px := by
  refine z_meth (by decide) (Nat.le_of_ble_eq_true rfl) ?_
  show Z E jX12_behind (D + 1) 0 (zQi post px) 0 0 [.ref 0, .ref (271 + w), .int x2, .int x3] [] M
  refine z_aload_n dX12_behind_0 rfl ?_
  refine z_callVv (As := []) (st := []) dX12_behind_1 zi_X12_134 rfl rfl zs_0 rfl rfl (Nat.le_of_ble_eq_true rfl) (by decide) (fun _ _ hx => hx) h ?_
  intro M1 h2
  refine z_aload_n dX12_behind_4 rfl ?_
  refine z_aload_n dX12_behind_5 rfl ?_
  refine z_callVi (As := [.ref (271 + w)]) (st := []) dX12_behind_6 zi_X12_137 rfl rfl zs_0 rfl rfl (Nat.le_of_ble_eq_true rfl) (by decide) (fun _ _ hx => hx) h2 ?_
  intro r5 M3 h4
  refine z_if_eq (tgt := 21) dX12_behind_9 (by decide) (fun g6 => ?_) (fun g6 => ?_)
  · have h7 := h4.1 g6
    refine z_iconst (v := (-1 : Int32)) dX12_behind_21 rfl ?_
    refine z_weak [false, false, false, false] (ls' := [zU, zU, zU, zU]) rfl rfl ?_
    exact h7
  · have h8 := h4.2 g6
    refine z_aload_n dX12_behind_12 rfl ?_
    refine z_iload_n dX12_behind_13 rfl ?_
    refine z_iload_n dX12_behind_14 rfl ?_
    refine z_callVi (As := [.int x2, .int x3]) (st := []) dX12_behind_15 zi_X12_141 rfl rfl zs_0 rfl rfl (Nat.le_of_ble_eq_true rfl) (by decide) (fun _ _ hx => hx) h8 ?_
    intro r11 M9 h10
    refine z_goto (tgt := 22) dX12_behind_18 (by decide) ?_
    refine z_weak [false, false, false, false] (ls' := [zU, zU, zU, zU]) rfl rfl ?_
    exact h10
theorem t_X12_behind_22 {E : zEv} {D : Nat} {post : Int32 → zM → Prop} {px : String → zM → Prop} {M : zM} {w : Nat}  {s0 : Int32} (h : post s0 M) : w_X12_behind_22 E D post px w s0 M := by
  show Z E jX12_behind (D + 1) 0 (zQi post px) 22 0 [zU, zU, zU, zU] [.int s0] M
  exact z_iret dX12_behind_22 rfl rfl (by decide) h
def w_X12_told_19 (E : zEv) (D : Nat) (post : Int32 → zM → Prop) (px : String → zM → Prop) (w : Nat) (s0 : Int32) (M : zM) : Prop := Z E jX12_told (D + 1) 0 (zQi post px) 19 0 [zU, zU] [.int s0] M
theorem e_X12_told {E : zEv} {D : Nat} {post : Int32 → zM → Prop} {px : String → zM → Prop} {M : zM} {w : Nat}  (h : zCi E jX12_passes D 0 [.ref 0, .ref (271 + w)] M (fun r3 M1 => ((r3 = 0 → w_X12_told_19 E D post px w (0 : Int32) M1) ∧ (¬ r3 = 0 → zCi E jX12_number D 0 [.ref 0, .int (0 : Int32), .int (99 : Int32)] M1 (fun r9 M7 => w_X12_told_19 E D post px w r9 M7) px))) px) : zCi E jX12_told (D + 1) 0 [.ref 0, .ref (271 + w)] M post px := by
  refine z_meth (by decide) (Nat.le_of_ble_eq_true rfl) ?_
  show Z E jX12_told (D + 1) 0 (zQi post px) 0 0 [.ref 0, .ref (271 + w)] [] M
  refine z_aload_n dX12_told_0 rfl ?_
  refine z_aload_n dX12_told_1 rfl ?_
  refine z_callVi (As := [.ref (271 + w)]) (st := []) dX12_told_2 zi_X12_144 rfl rfl zs_0 rfl rfl (Nat.le_of_ble_eq_true rfl) (by decide) (fun _ _ hx => hx) h ?_
  intro r3 M1 h2
  refine z_if_eq (tgt := 18) dX12_told_5 (by decide) (fun g4 => ?_) (fun g4 => ?_)
  · have h5 := h2.1 g4
    refine z_iconst (v := (0 : Int32)) dX12_told_18 rfl ?_
    refine z_weak [false, false] (ls' := [zU, zU]) rfl rfl ?_
    exact h5
  · have h6 := h2.2 g4
    refine z_aload_n dX12_told_8 rfl ?_
    refine z_iconst (v := (0 : Int32)) dX12_told_9 rfl ?_
    refine z_bipush (v := (99 : Int32)) dX12_told_10 rfl ?_
    refine z_callVi (As := [.int (0 : Int32), .int (99 : Int32)]) (st := []) dX12_told_12 zi_X12_141 rfl rfl zs_0 rfl rfl (Nat.le_of_ble_eq_true rfl) (by decide) (fun _ _ hx => hx) h6 ?_
    intro r9 M7 h8
    refine z_goto (tgt := 19) dX12_told_15 (by decide) ?_
    refine z_weak [false, false] (ls' := [zU, zU]) rfl rfl ?_
    exact h8
theorem t_X12_told_19 {E : zEv} {D : Nat} {post : Int32 → zM → Prop} {px : String → zM → Prop} {M : zM} {w : Nat}  {s0 : Int32} (h : post s0 M) : w_X12_told_19 E D post px w s0 M := by
  show Z E jX12_told (D + 1) 0 (zQi post px) 19 0 [zU, zU] [.int s0] M
  exact z_iret dX12_told_19 rfl rfl (by decide) h
theorem e_X12_fault {E : zEv} {D : Nat} {post : Int32 → zM → Prop} {px : String → zM → Prop} {M : zM}   (h : ∀ M1 : zM, M1 = zup M 0 0 (0 : Int32) → post (M1.1 0 14) M1) : zCi E jX12_fault D 0 [.ref 0] M post px := by
  refine z_meth (by decide) (Nat.le_of_ble_eq_true rfl) ?_
  show Z E jX12_fault D 0 (zQi post px) 0 0 [.ref 0] [] M
  refine z_aload_n dX12_fault_0 rfl ?_
  refine z_iconst (v := (0 : Int32)) dX12_fault_1 rfl ?_
  refine z_putI dX12_fault_2 zp_X12_3 zs_0 rfl rfl rfl ?_
  generalize hhM1 : zup M 0 0 (0 : Int32) = M1
  have h2 := h M1 hhM1.symm
  refine z_aload_n dX12_fault_5 rfl ?_
  refine z_getI dX12_fault_6 zg_X12_33 zs_0 rfl ?_
  exact z_iret dX12_fault_9 rfl rfl (by decide) h2
theorem e_X12_uses {E : zEv} {D : Nat} {post : zM → Prop} {px : String → zM → Prop} {M : zM}   (h : ∀ M1 : zM, M1 = zup M 0 0 (0 : Int32) → ∀ M3 : zM, M3 = zup M1 0 11 (M1.1 0 9) → ∀ M5 : zM, M5 = zup M3 0 9 (0 : Int32) → ∀ M7 : zM, M7 = zup M5 0 10 (0 : Int32) → post M7) : zCv E jX12_uses D 0 [.ref 0] M post px := by
  refine z_meth (by decide) (Nat.le_of_ble_eq_true rfl) ?_
  show Z E jX12_uses D 0 (zQv post px) 0 0 [.ref 0] [] M
  refine z_aload_n dX12_uses_0 rfl ?_
  refine z_iconst (v := (0 : Int32)) dX12_uses_1 rfl ?_
  refine z_putI dX12_uses_2 zp_X12_3 zs_0 rfl rfl rfl ?_
  generalize hhM1 : zup M 0 0 (0 : Int32) = M1
  have h2 := h M1 hhM1.symm
  refine z_aload_n dX12_uses_5 rfl ?_
  refine z_aload_n dX12_uses_6 rfl ?_
  refine z_getI dX12_uses_7 zg_X12_106 zs_0 rfl ?_
  refine z_putI dX12_uses_10 zp_X12_112 zs_0 rfl rfl rfl ?_
  generalize hhM3 : zup M1 0 11 (M1.1 0 9) = M3
  have h4 := h2 M3 hhM3.symm
  refine z_aload_n dX12_uses_13 rfl ?_
  refine z_iconst (v := (0 : Int32)) dX12_uses_14 rfl ?_
  refine z_putI dX12_uses_15 zp_X12_106 zs_0 rfl rfl rfl ?_
  generalize hhM5 : zup M3 0 9 (0 : Int32) = M5
  have h6 := h4 M5 hhM5.symm
  refine z_aload_n dX12_uses_18 rfl ?_
  refine z_iconst (v := (0 : Int32)) dX12_uses_19 rfl ?_
  refine z_putI dX12_uses_20 zp_X12_109 zs_0 rfl rfl rfl ?_
  generalize hhM7 : zup M5 0 10 (0 : Int32) = M7
  have h8 := h6 M7 hhM7.symm
  exact z_vret dX12_uses_23 rfl (by decide) h8
def w_X12_readNumber_29 (E : zEv) (D : Nat) (post : Int32 → zM → Prop) (px : String → zM → Prop)  (y4 : Int32) (s0 : Int32) (s1 : Int32) (M : zM) : Prop := Z E jX12_readNumber (D + 1) 0 (zQi post px) 29 0 [zU, zU, zU, zU, .int y4] [.int s0, .int s1, .ref 1] M
def w_X12_readNumber_40 (E : zEv) (D : Nat) (post : Int32 → zM → Prop) (px : String → zM → Prop)  (s0 : Int32) (M : zM) : Prop := Z E jX12_readNumber (D + 1) 0 (zQi post px) 40 0 [zU, zU, zU, zU, zU] [.int s0] M
theorem e_X12_readNumber {E : zEv} {D : Nat} {post : Int32 → zM → Prop} {px : String → zM → Prop} {M : zM} {x1 : Int32} {x2 : Int32} {x3 : Int32}  (h : zCi E jX12_number D 0 [.ref 0, .int x2, .int x3] M (fun r3 M1 => ((0 ≤ r3 → w_X12_readNumber_29 E D post px r3 r3 x1 M1) ∧ (¬ 0 ≤ r3 → vp_in x1 2070 ∧ w_X12_readNumber_29 E D post px r3 (M1.1 1 (x1).toNatClampNeg) x1 M1))) px) : zCi E jX12_readNumber (D + 1) 0 [.ref 0, .int x1, .int x2, .int x3] M post px := by
  refine z_meth (by decide) (Nat.le_of_ble_eq_true rfl) ?_
  show Z E jX12_readNumber (D + 1) 0 (zQi post px) 0 0 [.ref 0, .int x1, .int x2, .int x3, zU] [] M
  refine z_aload_n dX12_readNumber_0 rfl ?_
  refine z_iload_n dX12_readNumber_1 rfl ?_
  refine z_iload_n dX12_readNumber_2 rfl ?_
  refine z_callVi (As := [.int x2, .int x3]) (st := []) dX12_readNumber_3 zi_X12_141 rfl rfl zs_0 rfl rfl (Nat.le_of_ble_eq_true rfl) (by decide) (fun _ _ hx => hx) h ?_
  intro r3 M1 h2
  refine z_istore dX12_readNumber_6 (by decide) (ls' := [.ref 0, .int x1, .int x2, .int x3, .int r3]) rfl ?_
  refine z_aload_n dX12_readNumber_8 rfl ?_
  refine z_getR dX12_readNumber_9 zg_X12_13 zs_0 rfl ?_
  refine z_iload_n dX12_readNumber_12 rfl ?_
  refine z_iload dX12_readNumber_13 rfl ?_
  refine z_if_ge (tgt := 27) dX12_readNumber_15 (by decide) (fun g4 => ?_) (fun g4 => ?_)
  · have h5 := h2.1 g4
    refine z_iload dX12_readNumber_27 rfl ?_
    refine z_weak [false, false, false, false, true] (ls' := [zU, zU, zU, zU, .int r3]) rfl rfl ?_
    exact h5
  · have h6 := h2.2 g4
    refine z_aload_n dX12_readNumber_18 rfl ?_
    refine z_getR dX12_readNumber_19 zg_X12_13 zs_0 rfl ?_
    refine z_iload_n dX12_readNumber_22 rfl ?_
    obtain ⟨g8, h7⟩ := h6
    refine z_iald dX12_readNumber_23 zs_1 g8 ?_
    refine z_goto (tgt := 29) dX12_readNumber_24 (by decide) ?_
    refine z_weak [false, false, false, false, true] (ls' := [zU, zU, zU, zU, .int r3]) rfl rfl ?_
    exact h7
theorem t_X12_readNumber_29 {E : zEv} {D : Nat} {post : Int32 → zM → Prop} {px : String → zM → Prop} {M : zM}   {y4 : Int32} {s0 : Int32} {s1 : Int32} (h : vp_in s1 2070 ∧ ∀ M3 : zM, M3 = zup M 1 (s1).toNatClampNeg s0 → ((y4 < 0 → w_X12_readNumber_40 E D post px (0 : Int32) M3) ∧ (¬ y4 < 0 → w_X12_readNumber_40 E D post px (1 : Int32) M3))) : w_X12_readNumber_29 E D post px y4 s0 s1 M := by
  show Z E jX12_readNumber (D + 1) 0 (zQi post px) 29 0 [zU, zU, zU, zU, .int y4] [.int s0, .int s1, .ref 1] M
  obtain ⟨g2, h1⟩ := h
  refine z_iast dX12_readNumber_29 zs_1 g2 ?_
  generalize hhM3 : zup M 1 (s1).toNatClampNeg s0 = M3
  have h4 := h1 M3 hhM3.symm
  refine z_iload dX12_readNumber_30 rfl ?_
  refine z_if_lt (tgt := 39) dX12_readNumber_32 (by decide) (fun g5 => ?_) (fun g5 => ?_)
  · have h6 := h4.1 g5
    refine z_iconst (v := (0 : Int32)) dX12_readNumber_39 rfl ?_
    refine z_weak [false, false, false, false, false] (ls' := [zU, zU, zU, zU, zU]) rfl rfl ?_
    exact h6
  · have h7 := h4.2 g5
    refine z_iconst (v := (1 : Int32)) dX12_readNumber_35 rfl ?_
    refine z_goto (tgt := 40) dX12_readNumber_36 (by decide) ?_
    refine z_weak [false, false, false, false, false] (ls' := [zU, zU, zU, zU, zU]) rfl rfl ?_
    exact h7
theorem t_X12_readNumber_40 {E : zEv} {D : Nat} {post : Int32 → zM → Prop} {px : String → zM → Prop} {M : zM}   {s0 : Int32} (h : (s0 = 0 ∨ s0 = 1) ∧ post s0 M) : w_X12_readNumber_40 E D post px s0 M := by
  show Z E jX12_readNumber (D + 1) 0 (zQi post px) 40 0 [zU, zU, zU, zU, zU] [.int s0] M
  obtain ⟨g2, h1⟩ := h
  exact z_iret dX12_readNumber_40 rfl (zbool g2) (by decide) h1
def w_X12_lettersTold_22 (E : zEv) (D : Nat) (post : Int32 → zM → Prop) (px : String → zM → Prop)  (y1 : Int32) (y2 : Int32) (s0 : Int32) (M : zM) : Prop := Z E jX12_lettersTold (D + 1) 0 (zQi post px) 22 0 [.ref 0, .int y1, .int y2, zU, zU, zU] [.int s0] M
def w_X12_lettersTold_29 (E : zEv) (D : Nat) (post : Int32 → zM → Prop) (px : String → zM → Prop)  (y1 : Int32) (y2 : Int32) (y3 : Int32) (y4 : Int32) (M : zM) : Prop := Z E jX12_lettersTold (D + 1) 0 (zQi post px) 29 0 [.ref 0, .int y1, .int y2, .int y3, .int y4, zU] [] M
def w_X12_lettersTold_96 (E : zEv) (D : Nat) (post : Int32 → zM → Prop) (px : String → zM → Prop)  (y2 : Int32) (y3 : Int32) (M : zM) : Prop := Z E jX12_lettersTold (D + 1) 0 (zQi post px) 96 0 [zU, zU, .int y2, .int y3, zU, zU] [] M
def w_X12_lettersTold_73 (E : zEv) (D : Nat) (post : Int32 → zM → Prop) (px : String → zM → Prop)  (y1 : Int32) (y2 : Int32) (y4 : Int32) (y5 : Int32) (M : zM) : Prop := Z E jX12_lettersTold (D + 1) 0 (zQi post px) 73 0 [.ref 0, .int y1, .int y2, zU, .int y4, .int y5] [] M
def w_X12_lettersTold_74 (E : zEv) (D : Nat) (post : Int32 → zM → Prop) (px : String → zM → Prop)  (y1 : Int32) (y2 : Int32) (y4 : Int32) (y5 : Int32) (s0 : Int32) (M : zM) : Prop := Z E jX12_lettersTold (D + 1) 0 (zQi post px) 74 0 [.ref 0, .int y1, .int y2, zU, .int y4, .int y5] [.int s0] M
def w_X12_lettersTold_105 (E : zEv) (D : Nat) (post : Int32 → zM → Prop) (px : String → zM → Prop)  (s0 : Int32) (M : zM) : Prop := Z E jX12_lettersTold (D + 1) 0 (zQi post px) 105 0 [zU, zU, zU, zU, zU, zU] [.int s0] M
def w_X12_lettersTold_88 (E : zEv) (D : Nat) (post : Int32 → zM → Prop) (px : String → zM → Prop)  (y1 : Int32) (y3 : Int32) (y4 : Int32) (s0 : Int32) (s1 : Int32) (M : zM) : Prop := Z E jX12_lettersTold (D + 1) 0 (zQi post px) 88 0 [.ref 0, .int y1, zU, .int y3, .int y4, zU] [.int s0, .int s1] M
theorem e_X12_lettersTold {E : zEv} {D : Nat} {post : Int32 → zM → Prop} {px : String → zM → Prop} {M : zM} {x1 : Int32}  (h : zCv E jX12_letters D 0 [.ref 0] M (fun M1 => (((M1.1 0 10) ≤ (M1.1 0 12) → w_X12_lettersTold_22 E D post px x1 (0 : Int32) (0 : Int32) M1) ∧ (¬ (M1.1 0 10) ≤ (M1.1 0 12) → w_X12_lettersTold_22 E D post px x1 (0 : Int32) (1 : Int32) M1))) px) : zCi E jX12_lettersTold (D + 1) 0 [.ref 0, .int x1] M post px := by
  refine z_meth (by decide) (Nat.le_of_ble_eq_true rfl) ?_
  show Z E jX12_lettersTold (D + 1) 0 (zQi post px) 0 0 [.ref 0, .int x1, zU, zU, zU, zU] [] M
  refine z_aload_n dX12_lettersTold_0 rfl ?_
  refine z_callVv (As := []) (st := []) dX12_lettersTold_1 zi_X12_134 rfl rfl zs_0 rfl rfl (Nat.le_of_ble_eq_true rfl) (by decide) (fun _ _ hx => hx) h ?_
  intro M1 h2
  refine z_iconst (v := (0 : Int32)) dX12_lettersTold_4 rfl ?_
  refine z_istore_n dX12_lettersTold_5 (by decide) (ls' := [.ref 0, .int x1, .int (0 : Int32), zU, zU, zU]) rfl ?_
  refine z_aload_n dX12_lettersTold_6 rfl ?_
  refine z_getI dX12_lettersTold_7 zg_X12_109 zs_0 rfl ?_
  refine z_aload_n dX12_lettersTold_10 rfl ?_
  refine z_getI dX12_lettersTold_11 zg_X12_119 zs_0 rfl ?_
  refine z_icmp_le (tgt := 21) dX12_lettersTold_14 (by decide) (fun g3 => ?_) (fun g3 => ?_)
  · have h4 := h2.1 g3
    refine z_iconst (v := (0 : Int32)) dX12_lettersTold_21 rfl ?_
    exact h4
  · have h5 := h2.2 g3
    refine z_iconst (v := (1 : Int32)) dX12_lettersTold_17 rfl ?_
    refine z_goto (tgt := 22) dX12_lettersTold_18 (by decide) ?_
    exact h5
theorem t_X12_lettersTold_22 {E : zEv} {D : Nat} {post : Int32 → zM → Prop} {px : String → zM → Prop} {M : zM}   {y1 : Int32} {y2 : Int32} {s0 : Int32} (h : w_X12_lettersTold_29 E D post px y1 y2 s0 (M.1 0 12) M) : w_X12_lettersTold_22 E D post px y1 y2 s0 M := by
  show Z E jX12_lettersTold (D + 1) 0 (zQi post px) 22 0 [.ref 0, .int y1, .int y2, zU, zU, zU] [.int s0] M
  refine z_istore_n dX12_lettersTold_22 (by decide) (ls' := [.ref 0, .int y1, .int y2, .int s0, zU, zU]) rfl ?_
  refine z_aload_n dX12_lettersTold_23 rfl ?_
  refine z_getI dX12_lettersTold_24 zg_X12_119 zs_0 rfl ?_
  refine z_istore dX12_lettersTold_27 (by decide) (ls' := [.ref 0, .int y1, .int y2, .int s0, .int (M.1 0 12), zU]) rfl ?_
  exact h
theorem t_X12_lettersTold_29 {E : zEv} {D : Nat} {post : Int32 → zM → Prop} {px : String → zM → Prop} {M : zM}   {y1 : Int32} {y2 : Int32} {y3 : Int32} {y4 : Int32} (h : (((M.1 0 10) ≤ y4 → w_X12_lettersTold_96 E D post px y2 y3 M) ∧ (¬ (M.1 0 10) ≤ y4 → ((y3 = 0 → w_X12_lettersTold_96 E D post px y2 y3 M) ∧ (¬ y3 = 0 → vp_in y4 400 ∧ ((y1 ≤ ((M.1 6 (y4).toNatClampNeg) - (97 : Int32)) → w_X12_lettersTold_73 E D post px y1 y2 y4 ((M.1 6 (y4).toNatClampNeg) - (97 : Int32)) M) ∧ (¬ y1 ≤ ((M.1 6 (y4).toNatClampNeg) - (97 : Int32)) → zCi E jX12_has D 0 [.int y2, .int ((M.1 6 (y4).toNatClampNeg) - (97 : Int32))] M (fun r14 M12 => ((¬ r14 = 0 → w_X12_lettersTold_73 E D post px y1 y2 y4 ((M.1 6 (y4).toNatClampNeg) - (97 : Int32)) M12) ∧ (r14 = 0 → w_X12_lettersTold_74 E D post px y1 y2 y4 ((M.1 6 (y4).toNatClampNeg) - (97 : Int32)) (1 : Int32) M12))) px))))))) : w_X12_lettersTold_29 E D post px y1 y2 y3 y4 M := by
  show Z E jX12_lettersTold (D + 1) 0 (zQi post px) 29 0 [.ref 0, .int y1, .int y2, .int y3, .int y4, zU] [] M
  refine z_iload dX12_lettersTold_29 rfl ?_
  refine z_aload_n dX12_lettersTold_31 rfl ?_
  refine z_getI dX12_lettersTold_32 zg_X12_109 zs_0 rfl ?_
  refine z_icmp_ge (tgt := 96) dX12_lettersTold_35 (by decide) (fun g1 => ?_) (fun g1 => ?_)
  · have h2 := h.1 g1
    refine z_weak [false, false, true, true, false, false] (ls' := [zU, zU, .int y2, .int y3, zU, zU]) rfl rfl ?_
    exact h2
  · have h3 := h.2 g1
    refine z_iload_n dX12_lettersTold_38 rfl ?_
    refine z_if_eq (tgt := 96) dX12_lettersTold_39 (by decide) (fun g4 => ?_) (fun g4 => ?_)
    · have h5 := h3.1 g4
      refine z_weak [false, false, true, true, false, false] (ls' := [zU, zU, .int y2, .int y3, zU, zU]) rfl rfl ?_
      exact h5
    · have h6 := h3.2 g4
      refine z_aload_n dX12_lettersTold_42 rfl ?_
      refine z_getR dX12_lettersTold_43 zg_X12_29 zs_0 rfl ?_
      refine z_iload dX12_lettersTold_46 rfl ?_
      obtain ⟨g8, h7⟩ := h6
      refine z_bald dX12_lettersTold_48 zs_6 g8 ?_
      refine z_bipush (v := (97 : Int32)) dX12_lettersTold_49 rfl ?_
      refine z_isub dX12_lettersTold_51 ?_
      refine z_istore dX12_lettersTold_52 (by decide) (ls' := [.ref 0, .int y1, .int y2, .int y3, .int y4, .int ((M.1 6 (y4).toNatClampNeg) - (97 : Int32))]) rfl ?_
      refine z_iload dX12_lettersTold_54 rfl ?_
      refine z_iload_n dX12_lettersTold_56 rfl ?_
      refine z_icmp_ge (tgt := 73) dX12_lettersTold_57 (by decide) (fun g9 => ?_) (fun g9 => ?_)
      · have h10 := h7.1 g9
        refine z_weak [true, true, true, false, true, true] (ls' := [.ref 0, .int y1, .int y2, zU, .int y4, .int ((M.1 6 (y4).toNatClampNeg) - (97 : Int32))]) rfl rfl ?_
        exact h10
      · have h11 := h7.2 g9
        refine z_iload_n dX12_lettersTold_60 rfl ?_
        refine z_iload dX12_lettersTold_61 rfl ?_
        refine z_callSi (As := [.int y2, .int ((M.1 6 (y4).toNatClampNeg) - (97 : Int32))]) (st := []) dX12_lettersTold_63 zi_X12_147 rfl rfl (Nat.le_of_ble_eq_true rfl) (by decide) (fun _ _ hx => hx) h11 ?_
        intro r14 M12 h13
        refine z_if_ne (tgt := 73) dX12_lettersTold_66 (by decide) (fun g15 => ?_) (fun g15 => ?_)
        · have h16 := h13.1 g15
          refine z_weak [true, true, true, false, true, true] (ls' := [.ref 0, .int y1, .int y2, zU, .int y4, .int ((M.1 6 (y4).toNatClampNeg) - (97 : Int32))]) rfl rfl ?_
          exact h16
        · have h17 := h13.2 g15
          refine z_iconst (v := (1 : Int32)) dX12_lettersTold_69 rfl ?_
          refine z_goto (tgt := 74) dX12_lettersTold_70 (by decide) ?_
          refine z_weak [true, true, true, false, true, true] (ls' := [.ref 0, .int y1, .int y2, zU, .int y4, .int ((M.1 6 (y4).toNatClampNeg) - (97 : Int32))]) rfl rfl ?_
          exact h17
theorem t_X12_lettersTold_96 {E : zEv} {D : Nat} {post : Int32 → zM → Prop} {px : String → zM → Prop} {M : zM}   {y2 : Int32} {y3 : Int32} (h : ((y3 = 0 → w_X12_lettersTold_105 E D post px (0 : Int32) M) ∧ (¬ y3 = 0 → w_X12_lettersTold_105 E D post px y2 M))) : w_X12_lettersTold_96 E D post px y2 y3 M := by
  show Z E jX12_lettersTold (D + 1) 0 (zQi post px) 96 0 [zU, zU, .int y2, .int y3, zU, zU] [] M
  refine z_iload_n dX12_lettersTold_96 rfl ?_
  refine z_if_eq (tgt := 104) dX12_lettersTold_97 (by decide) (fun g1 => ?_) (fun g1 => ?_)
  · have h2 := h.1 g1
    refine z_iconst (v := (0 : Int32)) dX12_lettersTold_104 rfl ?_
    refine z_weak [false, false, false, false, false, false] (ls' := [zU, zU, zU, zU, zU, zU]) rfl rfl ?_
    exact h2
  · have h3 := h.2 g1
    refine z_iload_n dX12_lettersTold_100 rfl ?_
    refine z_goto (tgt := 105) dX12_lettersTold_101 (by decide) ?_
    refine z_weak [false, false, false, false, false, false] (ls' := [zU, zU, zU, zU, zU, zU]) rfl rfl ?_
    exact h3
theorem t_X12_lettersTold_73 {E : zEv} {D : Nat} {post : Int32 → zM → Prop} {px : String → zM → Prop} {M : zM}   {y1 : Int32} {y2 : Int32} {y4 : Int32} {y5 : Int32} (h : w_X12_lettersTold_74 E D post px y1 y2 y4 y5 (0 : Int32) M) : w_X12_lettersTold_73 E D post px y1 y2 y4 y5 M := by
  show Z E jX12_lettersTold (D + 1) 0 (zQi post px) 73 0 [.ref 0, .int y1, .int y2, zU, .int y4, .int y5] [] M
  refine z_iconst (v := (0 : Int32)) dX12_lettersTold_73 rfl ?_
  exact h
theorem t_X12_lettersTold_74 {E : zEv} {D : Nat} {post : Int32 → zM → Prop} {px : String → zM → Prop} {M : zM}   {y1 : Int32} {y2 : Int32} {y4 : Int32} {y5 : Int32} {s0 : Int32} (h : ((s0 = 0 → w_X12_lettersTold_88 E D post px y1 s0 y4 (0 : Int32) y2 M) ∧ (¬ s0 = 0 → w_X12_lettersTold_88 E D post px y1 s0 y4 ((1 : Int32) <<< (y5 &&& 31)) y2 M))) : w_X12_lettersTold_74 E D post px y1 y2 y4 y5 s0 M := by
  show Z E jX12_lettersTold (D + 1) 0 (zQi post px) 74 0 [.ref 0, .int y1, .int y2, zU, .int y4, .int y5] [.int s0] M
  refine z_istore_n dX12_lettersTold_74 (by decide) (ls' := [.ref 0, .int y1, .int y2, .int s0, .int y4, .int y5]) rfl ?_
  refine z_iload_n dX12_lettersTold_75 rfl ?_
  refine z_iload_n dX12_lettersTold_76 rfl ?_
  refine z_if_eq (tgt := 87) dX12_lettersTold_77 (by decide) (fun g1 => ?_) (fun g1 => ?_)
  · have h2 := h.1 g1
    refine z_iconst (v := (0 : Int32)) dX12_lettersTold_87 rfl ?_
    refine z_weak [true, true, false, true, true, false] (ls' := [.ref 0, .int y1, zU, .int s0, .int y4, zU]) rfl rfl ?_
    exact h2
  · have h3 := h.2 g1
    refine z_iconst (v := (1 : Int32)) dX12_lettersTold_80 rfl ?_
    refine z_iload dX12_lettersTold_81 rfl ?_
    refine z_ishl dX12_lettersTold_83 ?_
    refine z_goto (tgt := 88) dX12_lettersTold_84 (by decide) ?_
    refine z_weak [true, true, false, true, true, false] (ls' := [.ref 0, .int y1, zU, .int s0, .int y4, zU]) rfl rfl ?_
    exact h3
theorem t_X12_lettersTold_105 {E : zEv} {D : Nat} {post : Int32 → zM → Prop} {px : String → zM → Prop} {M : zM}   {s0 : Int32} (h : post s0 M) : w_X12_lettersTold_105 E D post px s0 M := by
  show Z E jX12_lettersTold (D + 1) 0 (zQi post px) 105 0 [zU, zU, zU, zU, zU, zU] [.int s0] M
  exact z_iret dX12_lettersTold_105 rfl rfl (by decide) h
theorem t_X12_lettersTold_88 {E : zEv} {D : Nat} {post : Int32 → zM → Prop} {px : String → zM → Prop} {M : zM}   {y1 : Int32} {y3 : Int32} {y4 : Int32} {s0 : Int32} {s1 : Int32} (h : w_X12_lettersTold_29 E D post px y1 (s1 ||| s0) y3 (y4 + (1 : Int32)) M) : w_X12_lettersTold_88 E D post px y1 y3 y4 s0 s1 M := by
  show Z E jX12_lettersTold (D + 1) 0 (zQi post px) 88 0 [.ref 0, .int y1, zU, .int y3, .int y4, zU] [.int s0, .int s1] M
  refine z_ior dX12_lettersTold_88 ?_
  refine z_istore_n dX12_lettersTold_89 (by decide) (ls' := [.ref 0, .int y1, .int (s1 ||| s0), .int y3, .int y4, zU]) rfl ?_
  refine z_iinc dX12_lettersTold_90 rfl (by decide) (ls' := [.ref 0, .int y1, .int (s1 ||| s0), .int y3, .int (y4 + (1 : Int32)), zU]) rfl ?_
  refine z_goto (tgt := 29) dX12_lettersTold_93 (by decide) ?_
  exact h
def w_X12_readWitness_39 (E : zEv) (D : Nat) (post : Int32 → zM → Prop) (px : String → zM → Prop)  (y1 : Int32) (y2 : Int32) (s0 : Int32) (M : zM) : Prop := Z E jX12_readWitness (D + 1) 0 (zQi post px) 39 0 [.ref 0, .int y1, .int y2, zU, zU, zU] [.int s0] M
def w_X12_readWitness_69 (E : zEv) (D : Nat) (post : Int32 → zM → Prop) (px : String → zM → Prop)  (y1 : Int32) (y2 : Int32) (y3 : Int32) (y4 : Int32) (s0 : Int32) (M : zM) : Prop := Z E jX12_readWitness (D + 1) 0 (zQi post px) 69 0 [.ref 0, .int y1, .int y2, .int y3, .int y4, zU] [.int s0] M
theorem e_X12_readWitness {E : zEv} {D : Nat} {post : Int32 → zM → Prop} {px : String → zM → Prop} {M : zM}   (h : zCi E jX12_witnesses D 0 [.ref 0] M (fun r3 M1 => ((¬ r3 = (5 : Int32) → zCi E jX12_behind D 0 [.ref 0, .ref (271 + 1), .int (0 : Int32), .int (9 : Int32)] M1 (fun r9 M7 => ((0 ≤ r9 → zCi E jX12_behind D 0 [.ref 0, .ref (271 + 2), .int (0 : Int32), .int (9 : Int32)] M7 (fun r15 M13 => w_X12_readWitness_39 E D post px r3 r9 r15 M13) px) ∧ (¬ 0 ≤ r9 → w_X12_readWitness_39 E D post px r3 r9 (-1 : Int32) M7))) px) ∧ (r3 = (5 : Int32) → post (0 : Int32) M1))) px) : zCi E jX12_readWitness (D + 1) 0 [.ref 0] M post px := by
  refine z_meth (by decide) (Nat.le_of_ble_eq_true rfl) ?_
  show Z E jX12_readWitness (D + 1) 0 (zQi post px) 0 0 [.ref 0, zU, zU, zU, zU, zU] [] M
  refine z_aload_n dX12_readWitness_0 rfl ?_
  refine z_callVi (As := []) (st := []) dX12_readWitness_1 zi_X12_92 rfl rfl zs_0 rfl rfl (Nat.le_of_ble_eq_true rfl) (by decide) (fun _ _ hx => hx) h ?_
  intro r3 M1 h2
  refine z_istore_n dX12_readWitness_4 (by decide) (ls' := [.ref 0, .int r3, zU, zU, zU, zU]) rfl ?_
  refine z_iload_n dX12_readWitness_5 rfl ?_
  refine z_iconst (v := (5 : Int32)) dX12_readWitness_6 rfl ?_
  refine z_icmp_ne (tgt := 12) dX12_readWitness_7 (by decide) (fun g4 => ?_) (fun g4 => ?_)
  · have h5 := h2.1 g4
    refine z_aload_n dX12_readWitness_12 rfl ?_
    refine z_ldcS (i := 51) dX12_readWitness_13 rfl ?_
    refine z_iconst (v := (0 : Int32)) dX12_readWitness_15 rfl ?_
    refine z_bipush (v := (9 : Int32)) dX12_readWitness_16 rfl ?_
    refine z_callVi (As := [.ref (271 + 1), .int (0 : Int32), .int (9 : Int32)]) (st := []) dX12_readWitness_18 zi_X12_152 rfl rfl zs_0 rfl rfl (Nat.le_of_ble_eq_true rfl) (by decide) (fun _ _ hx => hx) h5 ?_
    intro r9 M7 h8
    refine z_istore_n dX12_readWitness_21 (by decide) (ls' := [.ref 0, .int r3, .int r9, zU, zU, zU]) rfl ?_
    refine z_iload_n dX12_readWitness_22 rfl ?_
    refine z_if_ge (tgt := 30) dX12_readWitness_23 (by decide) (fun g10 => ?_) (fun g10 => ?_)
    · have h11 := h8.1 g10
      refine z_aload_n dX12_readWitness_30 rfl ?_
      refine z_ldcS (i := 52) dX12_readWitness_31 rfl ?_
      refine z_iconst (v := (0 : Int32)) dX12_readWitness_33 rfl ?_
      refine z_bipush (v := (9 : Int32)) dX12_readWitness_34 rfl ?_
      refine z_callVi (As := [.ref (271 + 2), .int (0 : Int32), .int (9 : Int32)]) (st := []) dX12_readWitness_36 zi_X12_152 rfl rfl zs_0 rfl rfl (Nat.le_of_ble_eq_true rfl) (by decide) (fun _ _ hx => hx) h11 ?_
      intro r15 M13 h14
      exact h14
    · have h12 := h8.2 g10
      refine z_iconst (v := (-1 : Int32)) dX12_readWitness_26 rfl ?_
      refine z_goto (tgt := 39) dX12_readWitness_27 (by decide) ?_
      exact h12
  · have h6 := h2.2 g4
    refine z_iconst (v := (0 : Int32)) dX12_readWitness_10 rfl ?_
    exact z_iret dX12_readWitness_11 rfl (by decide) (by decide) h6
theorem t_X12_readWitness_39 {E : zEv} {D : Nat} {post : Int32 → zM → Prop} {px : String → zM → Prop} {M : zM}   {y1 : Int32} {y2 : Int32} {s0 : Int32} (h : ((0 ≤ s0 → zCi E jX12_told D 0 [.ref 0, .ref (271 + 3)] M (fun r6 M4 => ((0 ≤ r6 → zCi E jX12_told D 0 [.ref 0, .ref (271 + 4)] M4 (fun r12 M10 => w_X12_readWitness_69 E D post px y1 y2 s0 r6 r12 M10) px) ∧ (¬ 0 ≤ r6 → w_X12_readWitness_69 E D post px y1 y2 s0 r6 (-1 : Int32) M4))) px) ∧ (¬ 0 ≤ s0 → post (0 : Int32) M))) : w_X12_readWitness_39 E D post px y1 y2 s0 M := by
  show Z E jX12_readWitness (D + 1) 0 (zQi post px) 39 0 [.ref 0, .int y1, .int y2, zU, zU, zU] [.int s0] M
  refine z_istore_n dX12_readWitness_39 (by decide) (ls' := [.ref 0, .int y1, .int y2, .int s0, zU, zU]) rfl ?_
  refine z_iload_n dX12_readWitness_40 rfl ?_
  refine z_if_ge (tgt := 46) dX12_readWitness_41 (by decide) (fun g1 => ?_) (fun g1 => ?_)
  · have h2 := h.1 g1
    refine z_aload_n dX12_readWitness_46 rfl ?_
    refine z_ldcS (i := 53) dX12_readWitness_47 rfl ?_
    refine z_callVi (As := [.ref (271 + 3)]) (st := []) dX12_readWitness_49 zi_X12_160 rfl rfl zs_0 rfl rfl (Nat.le_of_ble_eq_true rfl) (by decide) (fun _ _ hx => hx) h2 ?_
    intro r6 M4 h5
    refine z_istore dX12_readWitness_52 (by decide) (ls' := [.ref 0, .int y1, .int y2, .int s0, .int r6, zU]) rfl ?_
    refine z_iload dX12_readWitness_54 rfl ?_
    refine z_if_ge (tgt := 63) dX12_readWitness_56 (by decide) (fun g7 => ?_) (fun g7 => ?_)
    · have h8 := h5.1 g7
      refine z_aload_n dX12_readWitness_63 rfl ?_
      refine z_ldcS (i := 54) dX12_readWitness_64 rfl ?_
      refine z_callVi (As := [.ref (271 + 4)]) (st := []) dX12_readWitness_66 zi_X12_160 rfl rfl zs_0 rfl rfl (Nat.le_of_ble_eq_true rfl) (by decide) (fun _ _ hx => hx) h8 ?_
      intro r12 M10 h11
      exact h11
    · have h9 := h5.2 g7
      refine z_iconst (v := (-1 : Int32)) dX12_readWitness_59 rfl ?_
      refine z_goto (tgt := 69) dX12_readWitness_60 (by decide) ?_
      exact h9
  · have h3 := h.2 g1
    refine z_iconst (v := (0 : Int32)) dX12_readWitness_44 rfl ?_
    exact z_iret dX12_readWitness_45 rfl (by decide) (by decide) h3
theorem t_X12_readWitness_69 {E : zEv} {D : Nat} {post : Int32 → zM → Prop} {px : String → zM → Prop} {M : zM}   {y1 : Int32} {y2 : Int32} {y3 : Int32} {y4 : Int32} {s0 : Int32} (h : ((0 ≤ s0 → zCi E jX12_at D 0 [.int y1, .int (0 : Int32)] M (fun r6 M4 => vp_in r6 2070 ∧ ∀ M9 : zM, M9 = zup M4 1 (r6).toNatClampNeg y2 → zCi E jX12_at D 0 [.int y1, .int (1 : Int32)] M9 (fun r13 M11 => vp_in r13 2070 ∧ ∀ M16 : zM, M16 = zup M11 1 (r13).toNatClampNeg y3 → zCi E jX12_at D 0 [.int y1, .int (2 : Int32)] M16 (fun r20 M18 => vp_in r20 2070 ∧ ∀ M23 : zM, M23 = zup M18 1 (r20).toNatClampNeg y4 → zCi E jX12_at D 0 [.int y1, .int (3 : Int32)] M23 (fun r27 M25 => vp_in r27 2070 ∧ ∀ M30 : zM, M30 = zup M25 1 (r27).toNatClampNeg s0 → zCi E jX12_at D 0 [.int y1, .int (4 : Int32)] M30 (fun r34 M32 => vp_in r34 2070 ∧ ∀ M37 : zM, M37 = zup M32 1 (r34).toNatClampNeg y1 → vp_in ((24 : Int32) + y1) 2070 ∧ ∀ M41 : zM, M41 = zup M37 1 (((24 : Int32) + y1)).toNatClampNeg y1 → ∀ M43 : zM, M43 = zup M41 1 ((0 : Int32)).toNatClampNeg ((M41.1 1 ((0 : Int32)).toNatClampNeg) + (1 : Int32)) → post (1 : Int32) M43) px) px) px) px) px) ∧ (¬ 0 ≤ s0 → post (0 : Int32) M))) : w_X12_readWitness_69 E D post px y1 y2 y3 y4 s0 M := by
  show Z E jX12_readWitness (D + 1) 0 (zQi post px) 69 0 [.ref 0, .int y1, .int y2, .int y3, .int y4, zU] [.int s0] M
  refine z_istore dX12_readWitness_69 (by decide) (ls' := [.ref 0, .int y1, .int y2, .int y3, .int y4, .int s0]) rfl ?_
  refine z_iload dX12_readWitness_71 rfl ?_
  refine z_if_ge (tgt := 78) dX12_readWitness_73 (by decide) (fun g1 => ?_) (fun g1 => ?_)
  · have h2 := h.1 g1
    refine z_aload_n dX12_readWitness_78 rfl ?_
    refine z_getR dX12_readWitness_79 zg_X12_13 zs_0 rfl ?_
    refine z_iload_n dX12_readWitness_82 rfl ?_
    refine z_iconst (v := (0 : Int32)) dX12_readWitness_83 rfl ?_
    refine z_callSi (As := [.int y1, .int (0 : Int32)]) (st := [.ref 1]) dX12_readWitness_84 zi_X12_78 rfl rfl (Nat.le_of_ble_eq_true rfl) (by decide) (fun _ _ hx => hx) h2 ?_
    intro r6 M4 h5
    refine z_iload_n dX12_readWitness_87 rfl ?_
    obtain ⟨g8, h7⟩ := h5
    refine z_iast dX12_readWitness_88 zs_1 g8 ?_
    generalize hhM9 : zup M4 1 (r6).toNatClampNeg y2 = M9
    have h10 := h7 M9 hhM9.symm
    refine z_aload_n dX12_readWitness_89 rfl ?_
    refine z_getR dX12_readWitness_90 zg_X12_13 zs_0 rfl ?_
    refine z_iload_n dX12_readWitness_93 rfl ?_
    refine z_iconst (v := (1 : Int32)) dX12_readWitness_94 rfl ?_
    refine z_callSi (As := [.int y1, .int (1 : Int32)]) (st := [.ref 1]) dX12_readWitness_95 zi_X12_78 rfl rfl (Nat.le_of_ble_eq_true rfl) (by decide) (fun _ _ hx => hx) h10 ?_
    intro r13 M11 h12
    refine z_iload_n dX12_readWitness_98 rfl ?_
    obtain ⟨g15, h14⟩ := h12
    refine z_iast dX12_readWitness_99 zs_1 g15 ?_
    generalize hhM16 : zup M11 1 (r13).toNatClampNeg y3 = M16
    have h17 := h14 M16 hhM16.symm
    refine z_aload_n dX12_readWitness_100 rfl ?_
    refine z_getR dX12_readWitness_101 zg_X12_13 zs_0 rfl ?_
    refine z_iload_n dX12_readWitness_104 rfl ?_
    refine z_iconst (v := (2 : Int32)) dX12_readWitness_105 rfl ?_
    refine z_callSi (As := [.int y1, .int (2 : Int32)]) (st := [.ref 1]) dX12_readWitness_106 zi_X12_78 rfl rfl (Nat.le_of_ble_eq_true rfl) (by decide) (fun _ _ hx => hx) h17 ?_
    intro r20 M18 h19
    refine z_iload dX12_readWitness_109 rfl ?_
    obtain ⟨g22, h21⟩ := h19
    refine z_iast dX12_readWitness_111 zs_1 g22 ?_
    generalize hhM23 : zup M18 1 (r20).toNatClampNeg y4 = M23
    have h24 := h21 M23 hhM23.symm
    refine z_aload_n dX12_readWitness_112 rfl ?_
    refine z_getR dX12_readWitness_113 zg_X12_13 zs_0 rfl ?_
    refine z_iload_n dX12_readWitness_116 rfl ?_
    refine z_iconst (v := (3 : Int32)) dX12_readWitness_117 rfl ?_
    refine z_callSi (As := [.int y1, .int (3 : Int32)]) (st := [.ref 1]) dX12_readWitness_118 zi_X12_78 rfl rfl (Nat.le_of_ble_eq_true rfl) (by decide) (fun _ _ hx => hx) h24 ?_
    intro r27 M25 h26
    refine z_iload dX12_readWitness_121 rfl ?_
    obtain ⟨g29, h28⟩ := h26
    refine z_iast dX12_readWitness_123 zs_1 g29 ?_
    generalize hhM30 : zup M25 1 (r27).toNatClampNeg s0 = M30
    have h31 := h28 M30 hhM30.symm
    refine z_aload_n dX12_readWitness_124 rfl ?_
    refine z_getR dX12_readWitness_125 zg_X12_13 zs_0 rfl ?_
    refine z_iload_n dX12_readWitness_128 rfl ?_
    refine z_iconst (v := (4 : Int32)) dX12_readWitness_129 rfl ?_
    refine z_callSi (As := [.int y1, .int (4 : Int32)]) (st := [.ref 1]) dX12_readWitness_130 zi_X12_78 rfl rfl (Nat.le_of_ble_eq_true rfl) (by decide) (fun _ _ hx => hx) h31 ?_
    intro r34 M32 h33
    refine z_iload_n dX12_readWitness_133 rfl ?_
    obtain ⟨g36, h35⟩ := h33
    refine z_iast dX12_readWitness_134 zs_1 g36 ?_
    generalize hhM37 : zup M32 1 (r34).toNatClampNeg y1 = M37
    have h38 := h35 M37 hhM37.symm
    refine z_aload_n dX12_readWitness_135 rfl ?_
    refine z_getR dX12_readWitness_136 zg_X12_13 zs_0 rfl ?_
    refine z_bipush (v := (24 : Int32)) dX12_readWitness_139 rfl ?_
    refine z_iload_n dX12_readWitness_141 rfl ?_
    refine z_iadd dX12_readWitness_142 ?_
    refine z_iload_n dX12_readWitness_143 rfl ?_
    obtain ⟨g40, h39⟩ := h38
    refine z_iast dX12_readWitness_144 zs_1 g40 ?_
    generalize hhM41 : zup M37 1 (((24 : Int32) + y1)).toNatClampNeg y1 = M41
    have h42 := h39 M41 hhM41.symm
    refine z_aload_n dX12_readWitness_145 rfl ?_
    refine z_getR dX12_readWitness_146 zg_X12_13 zs_0 rfl ?_
    refine z_iconst (v := (0 : Int32)) dX12_readWitness_149 rfl ?_
    refine z_dup2 dX12_readWitness_150 rfl rfl ?_
    refine z_iald dX12_readWitness_151 zs_1 (by unfold vp_in; decide) ?_
    refine z_iconst (v := (1 : Int32)) dX12_readWitness_152 rfl ?_
    refine z_iadd dX12_readWitness_153 ?_
    refine z_iast dX12_readWitness_154 zs_1 (by unfold vp_in; decide) ?_
    generalize hhM43 : zup M41 1 ((0 : Int32)).toNatClampNeg ((M41.1 1 ((0 : Int32)).toNatClampNeg) + (1 : Int32)) = M43
    have h44 := h42 M43 hhM43.symm
    refine z_iconst (v := (1 : Int32)) dX12_readWitness_155 rfl ?_
    exact z_iret dX12_readWitness_156 rfl (by decide) (by decide) h44
  · have h3 := h.2 g1
    refine z_iconst (v := (0 : Int32)) dX12_readWitness_76 rfl ?_
    exact z_iret dX12_readWitness_77 rfl (by decide) (by decide) h3
def w_X12_readThing_52 (E : zEv) (D : Nat) (post : Int32 → zM → Prop) (px : String → zM → Prop)  (y1 : Int32) (y2 : Int32) (y3 : Int32) (s0 : Int32) (M : zM) : Prop := Z E jX12_readThing (D + 1) 0 (zQi post px) 52 0 [.ref 0, .int y1, .int y2, .int y3, zU] [.int s0] M
def w_X12_readThing_65 (E : zEv) (D : Nat) (post : Int32 → zM → Prop) (px : String → zM → Prop)  (y1 : Int32) (y2 : Int32) (y4 : Int32) (M : zM) : Prop := Z E jX12_readThing (D + 1) 0 (zQi post px) 65 0 [.ref 0, .int y1, .int y2, zU, .int y4] [] M
def w_X12_readThing_111 (E : zEv) (D : Nat) (post : Int32 → zM → Prop) (px : String → zM → Prop)  (s0 : Int32) (s1 : Int32) (M : zM) : Prop := Z E jX12_readThing (D + 1) 0 (zQi post px) 111 0 [.ref 0, zU, zU, zU, zU] [.int s0, .int s1, .ref 1] M
theorem e_X12_readThing {E : zEv} {D : Nat} {post : Int32 → zM → Prop} {px : String → zM → Prop} {M : zM}   (h : zCi E jX12_things D 0 [.ref 0] M (fun r3 M1 => ((¬ r3 = (6 : Int32) → zCi E jX12_behind D 0 [.ref 0, .ref (271 + 6), .int (1 : Int32), .int (9 : Int32)] M1 (fun r9 M7 => ((0 ≤ r9 → zCi E jX12_passes D 0 [.ref 0, .ref (271 + 7)] M7 (fun r15 M13 => ((r15 = 0 → w_X12_readThing_52 E D post px r3 r9 r15 (0 : Int32) M13) ∧ (¬ r15 = 0 → zCi E jX12_witnesses D 0 [.ref 0] M13 (fun r21 M19 => zCi E jX12_lettersTold D 0 [.ref 0, .int r21] M19 (fun r24 M22 => w_X12_readThing_52 E D post px r3 r9 r15 r24 M22) px) px))) px) ∧ (¬ 0 ≤ r9 → post (0 : Int32) M7))) px) ∧ (r3 = (6 : Int32) → post (0 : Int32) M1))) px) : zCi E jX12_readThing (D + 1) 0 [.ref 0] M post px := by
  refine z_meth (by decide) (Nat.le_of_ble_eq_true rfl) ?_
  show Z E jX12_readThing (D + 1) 0 (zQi post px) 0 0 [.ref 0, zU, zU, zU, zU] [] M
  refine z_aload_n dX12_readThing_0 rfl ?_
  refine z_callVi (As := []) (st := []) dX12_readThing_1 zi_X12_85 rfl rfl zs_0 rfl rfl (Nat.le_of_ble_eq_true rfl) (by decide) (fun _ _ hx => hx) h ?_
  intro r3 M1 h2
  refine z_istore_n dX12_readThing_4 (by decide) (ls' := [.ref 0, .int r3, zU, zU, zU]) rfl ?_
  refine z_iload_n dX12_readThing_5 rfl ?_
  refine z_bipush (v := (6 : Int32)) dX12_readThing_6 rfl ?_
  refine z_icmp_ne (tgt := 13) dX12_readThing_8 (by decide) (fun g4 => ?_) (fun g4 => ?_)
  · have h5 := h2.1 g4
    refine z_aload_n dX12_readThing_13 rfl ?_
    refine z_ldcS (i := 56) dX12_readThing_14 rfl ?_
    refine z_iconst (v := (1 : Int32)) dX12_readThing_16 rfl ?_
    refine z_bipush (v := (9 : Int32)) dX12_readThing_17 rfl ?_
    refine z_callVi (As := [.ref (271 + 6), .int (1 : Int32), .int (9 : Int32)]) (st := []) dX12_readThing_19 zi_X12_152 rfl rfl zs_0 rfl rfl (Nat.le_of_ble_eq_true rfl) (by decide) (fun _ _ hx => hx) h5 ?_
    intro r9 M7 h8
    refine z_istore_n dX12_readThing_22 (by decide) (ls' := [.ref 0, .int r3, .int r9, zU, zU]) rfl ?_
    refine z_iload_n dX12_readThing_23 rfl ?_
    refine z_if_ge (tgt := 29) dX12_readThing_24 (by decide) (fun g10 => ?_) (fun g10 => ?_)
    · have h11 := h8.1 g10
      refine z_aload_n dX12_readThing_29 rfl ?_
      refine z_ldcS (i := 57) dX12_readThing_30 rfl ?_
      refine z_callVi (As := [.ref (271 + 7)]) (st := []) dX12_readThing_32 zi_X12_144 rfl rfl zs_0 rfl rfl (Nat.le_of_ble_eq_true rfl) (by decide) (fun _ _ hx => hx) h11 ?_
      intro r15 M13 h14
      refine z_istore_n dX12_readThing_35 (by decide) (ls' := [.ref 0, .int r3, .int r9, .int r15, zU]) rfl ?_
      refine z_iload_n dX12_readThing_36 rfl ?_
      refine z_if_eq (tgt := 51) dX12_readThing_37 (by decide) (fun g16 => ?_) (fun g16 => ?_)
      · have h17 := h14.1 g16
        refine z_iconst (v := (0 : Int32)) dX12_readThing_51 rfl ?_
        exact h17
      · have h18 := h14.2 g16
        refine z_aload_n dX12_readThing_40 rfl ?_
        refine z_aload_n dX12_readThing_41 rfl ?_
        refine z_callVi (As := []) (st := [.ref 0]) dX12_readThing_42 zi_X12_92 rfl rfl zs_0 rfl rfl (Nat.le_of_ble_eq_true rfl) (by decide) (fun _ _ hx => hx) h18 ?_
        intro r21 M19 h20
        refine z_callVi (As := [.int r21]) (st := []) dX12_readThing_45 zi_X12_170 rfl rfl zs_0 rfl rfl (Nat.le_of_ble_eq_true rfl) (by decide) (fun _ _ hx => hx) h20 ?_
        intro r24 M22 h23
        refine z_goto (tgt := 52) dX12_readThing_48 (by decide) ?_
        exact h23
    · have h12 := h8.2 g10
      refine z_iconst (v := (0 : Int32)) dX12_readThing_27 rfl ?_
      exact z_iret dX12_readThing_28 rfl (by decide) (by decide) h12
  · have h6 := h2.2 g4
    refine z_iconst (v := (0 : Int32)) dX12_readThing_11 rfl ?_
    exact z_iret dX12_readThing_12 rfl (by decide) (by decide) h6
theorem t_X12_readThing_52 {E : zEv} {D : Nat} {post : Int32 → zM → Prop} {px : String → zM → Prop} {M : zM}   {y1 : Int32} {y2 : Int32} {y3 : Int32} {s0 : Int32} (h : ((y3 = 0 → w_X12_readThing_65 E D post px y1 y2 s0 M) ∧ (¬ y3 = 0 → ((¬ s0 = 0 → w_X12_readThing_65 E D post px y1 y2 s0 M) ∧ (s0 = 0 → post (0 : Int32) M))))) : w_X12_readThing_52 E D post px y1 y2 y3 s0 M := by
  show Z E jX12_readThing (D + 1) 0 (zQi post px) 52 0 [.ref 0, .int y1, .int y2, .int y3, zU] [.int s0] M
  refine z_istore dX12_readThing_52 (by decide) (ls' := [.ref 0, .int y1, .int y2, .int y3, .int s0]) rfl ?_
  refine z_iload_n dX12_readThing_54 rfl ?_
  refine z_if_eq (tgt := 65) dX12_readThing_55 (by decide) (fun g1 => ?_) (fun g1 => ?_)
  · have h2 := h.1 g1
    refine z_weak [true, true, true, false, true] (ls' := [.ref 0, .int y1, .int y2, zU, .int s0]) rfl rfl ?_
    exact h2
  · have h3 := h.2 g1
    refine z_iload dX12_readThing_58 rfl ?_
    refine z_if_ne (tgt := 65) dX12_readThing_60 (by decide) (fun g4 => ?_) (fun g4 => ?_)
    · have h5 := h3.1 g4
      refine z_weak [true, true, true, false, true] (ls' := [.ref 0, .int y1, .int y2, zU, .int s0]) rfl rfl ?_
      exact h5
    · have h6 := h3.2 g4
      refine z_iconst (v := (0 : Int32)) dX12_readThing_63 rfl ?_
      exact z_iret dX12_readThing_64 rfl (by decide) (by decide) h6
theorem t_X12_readThing_65 {E : zEv} {D : Nat} {post : Int32 → zM → Prop} {px : String → zM → Prop} {M : zM}   {y1 : Int32} {y2 : Int32} {y4 : Int32} (h : zCi E jX12_thingAt D 0 [.int y1, .int (0 : Int32)] M (fun r3 M1 => vp_in r3 2070 ∧ ∀ M6 : zM, M6 = zup M1 1 (r3).toNatClampNeg y2 → zCi E jX12_thingAt D 0 [.int y1, .int (1 : Int32)] M6 (fun r10 M8 => vp_in r10 2070 ∧ ∀ M13 : zM, M13 = zup M8 1 (r10).toNatClampNeg y4 → zCi E jX12_thingAt D 0 [.int y1, .int (2 : Int32)] M13 (fun r17 M15 => zCi E jX12_passes D 0 [.ref 0, .ref (271 + 8)] M15 (fun r20 M18 => ((r20 = 0 → w_X12_readThing_111 E D post px (0 : Int32) r17 M18) ∧ (¬ r20 = 0 → w_X12_readThing_111 E D post px (1 : Int32) r17 M18))) px) px) px) px) : w_X12_readThing_65 E D post px y1 y2 y4 M := by
  show Z E jX12_readThing (D + 1) 0 (zQi post px) 65 0 [.ref 0, .int y1, .int y2, zU, .int y4] [] M
  refine z_aload_n dX12_readThing_65 rfl ?_
  refine z_getR dX12_readThing_66 zg_X12_13 zs_0 rfl ?_
  refine z_iload_n dX12_readThing_69 rfl ?_
  refine z_iconst (v := (0 : Int32)) dX12_readThing_70 rfl ?_
  refine z_callSi (As := [.int y1, .int (0 : Int32)]) (st := [.ref 1]) dX12_readThing_71 zi_X12_82 rfl rfl (Nat.le_of_ble_eq_true rfl) (by decide) (fun _ _ hx => hx) h ?_
  intro r3 M1 h2
  refine z_iload_n dX12_readThing_74 rfl ?_
  obtain ⟨g5, h4⟩ := h2
  refine z_iast dX12_readThing_75 zs_1 g5 ?_
  generalize hhM6 : zup M1 1 (r3).toNatClampNeg y2 = M6
  have h7 := h4 M6 hhM6.symm
  refine z_aload_n dX12_readThing_76 rfl ?_
  refine z_getR dX12_readThing_77 zg_X12_13 zs_0 rfl ?_
  refine z_iload_n dX12_readThing_80 rfl ?_
  refine z_iconst (v := (1 : Int32)) dX12_readThing_81 rfl ?_
  refine z_callSi (As := [.int y1, .int (1 : Int32)]) (st := [.ref 1]) dX12_readThing_82 zi_X12_82 rfl rfl (Nat.le_of_ble_eq_true rfl) (by decide) (fun _ _ hx => hx) h7 ?_
  intro r10 M8 h9
  refine z_iload dX12_readThing_85 rfl ?_
  obtain ⟨g12, h11⟩ := h9
  refine z_iast dX12_readThing_87 zs_1 g12 ?_
  generalize hhM13 : zup M8 1 (r10).toNatClampNeg y4 = M13
  have h14 := h11 M13 hhM13.symm
  refine z_aload_n dX12_readThing_88 rfl ?_
  refine z_getR dX12_readThing_89 zg_X12_13 zs_0 rfl ?_
  refine z_iload_n dX12_readThing_92 rfl ?_
  refine z_iconst (v := (2 : Int32)) dX12_readThing_93 rfl ?_
  refine z_callSi (As := [.int y1, .int (2 : Int32)]) (st := [.ref 1]) dX12_readThing_94 zi_X12_82 rfl rfl (Nat.le_of_ble_eq_true rfl) (by decide) (fun _ _ hx => hx) h14 ?_
  intro r17 M15 h16
  refine z_aload_n dX12_readThing_97 rfl ?_
  refine z_ldcS (i := 58) dX12_readThing_98 rfl ?_
  refine z_callVi (As := [.ref (271 + 8)]) (st := [.int r17, .ref 1]) dX12_readThing_100 zi_X12_144 rfl rfl zs_0 rfl rfl (Nat.le_of_ble_eq_true rfl) (by decide) (fun _ _ hx => hx) h16 ?_
  intro r20 M18 h19
  refine z_if_eq (tgt := 110) dX12_readThing_103 (by decide) (fun g21 => ?_) (fun g21 => ?_)
  · have h22 := h19.1 g21
    refine z_iconst (v := (0 : Int32)) dX12_readThing_110 rfl ?_
    refine z_weak [true, false, false, false, false] (ls' := [.ref 0, zU, zU, zU, zU]) rfl rfl ?_
    exact h22
  · have h23 := h19.2 g21
    refine z_iconst (v := (1 : Int32)) dX12_readThing_106 rfl ?_
    refine z_goto (tgt := 111) dX12_readThing_107 (by decide) ?_
    refine z_weak [true, false, false, false, false] (ls' := [.ref 0, zU, zU, zU, zU]) rfl rfl ?_
    exact h23
theorem t_X12_readThing_111 {E : zEv} {D : Nat} {post : Int32 → zM → Prop} {px : String → zM → Prop} {M : zM}   {s0 : Int32} {s1 : Int32} (h : vp_in s1 2070 ∧ ∀ M3 : zM, M3 = zup M 1 (s1).toNatClampNeg s0 → ∀ M5 : zM, M5 = zup M3 1 ((1 : Int32)).toNatClampNeg ((M3.1 1 ((1 : Int32)).toNatClampNeg) + (1 : Int32)) → post (1 : Int32) M5) : w_X12_readThing_111 E D post px s0 s1 M := by
  show Z E jX12_readThing (D + 1) 0 (zQi post px) 111 0 [.ref 0, zU, zU, zU, zU] [.int s0, .int s1, .ref 1] M
  obtain ⟨g2, h1⟩ := h
  refine z_iast dX12_readThing_111 zs_1 g2 ?_
  generalize hhM3 : zup M 1 (s1).toNatClampNeg s0 = M3
  have h4 := h1 M3 hhM3.symm
  refine z_aload_n dX12_readThing_112 rfl ?_
  refine z_getR dX12_readThing_113 zg_X12_13 zs_0 rfl ?_
  refine z_iconst (v := (1 : Int32)) dX12_readThing_116 rfl ?_
  refine z_dup2 dX12_readThing_117 rfl rfl ?_
  refine z_iald dX12_readThing_118 zs_1 (by unfold vp_in; decide) ?_
  refine z_iconst (v := (1 : Int32)) dX12_readThing_119 rfl ?_
  refine z_iadd dX12_readThing_120 ?_
  refine z_iast dX12_readThing_121 zs_1 (by unfold vp_in; decide) ?_
  generalize hhM5 : zup M3 1 ((1 : Int32)).toNatClampNeg ((M3.1 1 ((1 : Int32)).toNatClampNeg) + (1 : Int32)) = M5
  have h6 := h4 M5 hhM5.symm
  refine z_iconst (v := (1 : Int32)) dX12_readThing_122 rfl ?_
  exact z_iret dX12_readThing_123 rfl (by decide) (by decide) h6
theorem e_X12_readAsk {E : zEv} {D : Nat} {post : Int32 → zM → Prop} {px : String → zM → Prop} {M : zM}   (h : zCi E jX12_questions D 0 [.ref 0] M (fun r3 M1 => ((¬ r3 = (8 : Int32) → zCi E jX12_things D 0 [.ref 0] M1 (fun r9 M7 => zCi E jX12_lettersTold D 0 [.ref 0, .int r9] M7 (fun r12 M10 => ((¬ r12 = 0 → zCi E jX12_questions D 0 [.ref 0] M10 (fun r18 M16 => vp_in ((12 : Int32) + r18) 2070 ∧ ∀ M21 : zM, M21 = zup M16 1 (((12 : Int32) + r18)).toNatClampNeg r12 → ∀ M23 : zM, M23 = zup M21 1 ((2 : Int32)).toNatClampNeg ((M21.1 1 ((2 : Int32)).toNatClampNeg) + (1 : Int32)) → post (1 : Int32) M23) px) ∧ (r12 = 0 → post (0 : Int32) M10))) px) px) ∧ (r3 = (8 : Int32) → post (0 : Int32) M1))) px) : zCi E jX12_readAsk (D + 1) 0 [.ref 0] M post px := by
  refine z_meth (by decide) (Nat.le_of_ble_eq_true rfl) ?_
  show Z E jX12_readAsk (D + 1) 0 (zQi post px) 0 0 [.ref 0, zU] [] M
  refine z_aload_n dX12_readAsk_0 rfl ?_
  refine z_callVi (As := []) (st := []) dX12_readAsk_1 zi_X12_99 rfl rfl zs_0 rfl rfl (Nat.le_of_ble_eq_true rfl) (by decide) (fun _ _ hx => hx) h ?_
  intro r3 M1 h2
  refine z_bipush (v := (8 : Int32)) dX12_readAsk_4 rfl ?_
  refine z_icmp_ne (tgt := 11) dX12_readAsk_6 (by decide) (fun g4 => ?_) (fun g4 => ?_)
  · have h5 := h2.1 g4
    refine z_aload_n dX12_readAsk_11 rfl ?_
    refine z_aload_n dX12_readAsk_12 rfl ?_
    refine z_callVi (As := []) (st := [.ref 0]) dX12_readAsk_13 zi_X12_85 rfl rfl zs_0 rfl rfl (Nat.le_of_ble_eq_true rfl) (by decide) (fun _ _ hx => hx) h5 ?_
    intro r9 M7 h8
    refine z_callVi (As := [.int r9]) (st := []) dX12_readAsk_16 zi_X12_170 rfl rfl zs_0 rfl rfl (Nat.le_of_ble_eq_true rfl) (by decide) (fun _ _ hx => hx) h8 ?_
    intro r12 M10 h11
    refine z_istore_n dX12_readAsk_19 (by decide) (ls' := [.ref 0, .int r12]) rfl ?_
    refine z_iload_n dX12_readAsk_20 rfl ?_
    refine z_if_ne (tgt := 26) dX12_readAsk_21 (by decide) (fun g13 => ?_) (fun g13 => ?_)
    · have h14 := h11.1 g13
      refine z_aload_n dX12_readAsk_26 rfl ?_
      refine z_getR dX12_readAsk_27 zg_X12_13 zs_0 rfl ?_
      refine z_bipush (v := (12 : Int32)) dX12_readAsk_30 rfl ?_
      refine z_aload_n dX12_readAsk_32 rfl ?_
      refine z_callVi (As := []) (st := [.int (12 : Int32), .ref 1]) dX12_readAsk_33 zi_X12_99 rfl rfl zs_0 rfl rfl (Nat.le_of_ble_eq_true rfl) (by decide) (fun _ _ hx => hx) h14 ?_
      intro r18 M16 h17
      refine z_iadd dX12_readAsk_36 ?_
      refine z_iload_n dX12_readAsk_37 rfl ?_
      obtain ⟨g20, h19⟩ := h17
      refine z_iast dX12_readAsk_38 zs_1 g20 ?_
      generalize hhM21 : zup M16 1 (((12 : Int32) + r18)).toNatClampNeg r12 = M21
      have h22 := h19 M21 hhM21.symm
      refine z_aload_n dX12_readAsk_39 rfl ?_
      refine z_getR dX12_readAsk_40 zg_X12_13 zs_0 rfl ?_
      refine z_iconst (v := (2 : Int32)) dX12_readAsk_43 rfl ?_
      refine z_dup2 dX12_readAsk_44 rfl rfl ?_
      refine z_iald dX12_readAsk_45 zs_1 (by unfold vp_in; decide) ?_
      refine z_iconst (v := (1 : Int32)) dX12_readAsk_46 rfl ?_
      refine z_iadd dX12_readAsk_47 ?_
      refine z_iast dX12_readAsk_48 zs_1 (by unfold vp_in; decide) ?_
      generalize hhM23 : zup M21 1 ((2 : Int32)).toNatClampNeg ((M21.1 1 ((2 : Int32)).toNatClampNeg) + (1 : Int32)) = M23
      have h24 := h22 M23 hhM23.symm
      refine z_iconst (v := (1 : Int32)) dX12_readAsk_49 rfl ?_
      exact z_iret dX12_readAsk_50 rfl (by decide) (by decide) h24
    · have h15 := h11.2 g13
      refine z_iconst (v := (0 : Int32)) dX12_readAsk_24 rfl ?_
      exact z_iret dX12_readAsk_25 rfl (by decide) (by decide) h15
  · have h6 := h2.2 g4
    refine z_iconst (v := (0 : Int32)) dX12_readAsk_9 rfl ?_
    exact z_iret dX12_readAsk_10 rfl (by decide) (by decide) h6
theorem e_X12_readWoman {E : zEv} {D : Nat} {post : Int32 → zM → Prop} {px : String → zM → Prop} {M : zM}   (h : zCi E jX12_women D 0 [.ref 0] M (fun r3 M1 => ((¬ r3 = (4 : Int32) → zCi E jX12_behind D 0 [.ref 0, .ref (271 + 11), .int (1 : Int32), .int (20 : Int32)] M1 (fun r9 M7 => ((0 ≤ r9 → zCi E jX12_women D 0 [.ref 0] M7 (fun r15 M13 => vp_in ((20 : Int32) + r15) 2070 ∧ ∀ M18 : zM, M18 = zup M13 1 (((20 : Int32) + r15)).toNatClampNeg r9 → ∀ M20 : zM, M20 = zup M18 1 ((3 : Int32)).toNatClampNeg ((M18.1 1 ((3 : Int32)).toNatClampNeg) + (1 : Int32)) → post (1 : Int32) M20) px) ∧ (¬ 0 ≤ r9 → post (0 : Int32) M7))) px) ∧ (r3 = (4 : Int32) → post (0 : Int32) M1))) px) : zCi E jX12_readWoman (D + 1) 0 [.ref 0] M post px := by
  refine z_meth (by decide) (Nat.le_of_ble_eq_true rfl) ?_
  show Z E jX12_readWoman (D + 1) 0 (zQi post px) 0 0 [.ref 0, zU] [] M
  refine z_aload_n dX12_readWoman_0 rfl ?_
  refine z_callVi (As := []) (st := []) dX12_readWoman_1 zi_X12_102 rfl rfl zs_0 rfl rfl (Nat.le_of_ble_eq_true rfl) (by decide) (fun _ _ hx => hx) h ?_
  intro r3 M1 h2
  refine z_iconst (v := (4 : Int32)) dX12_readWoman_4 rfl ?_
  refine z_icmp_ne (tgt := 10) dX12_readWoman_5 (by decide) (fun g4 => ?_) (fun g4 => ?_)
  · have h5 := h2.1 g4
    refine z_aload_n dX12_readWoman_10 rfl ?_
    refine z_ldcS (i := 61) dX12_readWoman_11 rfl ?_
    refine z_iconst (v := (1 : Int32)) dX12_readWoman_13 rfl ?_
    refine z_bipush (v := (20 : Int32)) dX12_readWoman_14 rfl ?_
    refine z_callVi (As := [.ref (271 + 11), .int (1 : Int32), .int (20 : Int32)]) (st := []) dX12_readWoman_16 zi_X12_152 rfl rfl zs_0 rfl rfl (Nat.le_of_ble_eq_true rfl) (by decide) (fun _ _ hx => hx) h5 ?_
    intro r9 M7 h8
    refine z_istore_n dX12_readWoman_19 (by decide) (ls' := [.ref 0, .int r9]) rfl ?_
    refine z_iload_n dX12_readWoman_20 rfl ?_
    refine z_if_ge (tgt := 26) dX12_readWoman_21 (by decide) (fun g10 => ?_) (fun g10 => ?_)
    · have h11 := h8.1 g10
      refine z_aload_n dX12_readWoman_26 rfl ?_
      refine z_getR dX12_readWoman_27 zg_X12_13 zs_0 rfl ?_
      refine z_bipush (v := (20 : Int32)) dX12_readWoman_30 rfl ?_
      refine z_aload_n dX12_readWoman_32 rfl ?_
      refine z_callVi (As := []) (st := [.int (20 : Int32), .ref 1]) dX12_readWoman_33 zi_X12_102 rfl rfl zs_0 rfl rfl (Nat.le_of_ble_eq_true rfl) (by decide) (fun _ _ hx => hx) h11 ?_
      intro r15 M13 h14
      refine z_iadd dX12_readWoman_36 ?_
      refine z_iload_n dX12_readWoman_37 rfl ?_
      obtain ⟨g17, h16⟩ := h14
      refine z_iast dX12_readWoman_38 zs_1 g17 ?_
      generalize hhM18 : zup M13 1 (((20 : Int32) + r15)).toNatClampNeg r9 = M18
      have h19 := h16 M18 hhM18.symm
      refine z_aload_n dX12_readWoman_39 rfl ?_
      refine z_getR dX12_readWoman_40 zg_X12_13 zs_0 rfl ?_
      refine z_iconst (v := (3 : Int32)) dX12_readWoman_43 rfl ?_
      refine z_dup2 dX12_readWoman_44 rfl rfl ?_
      refine z_iald dX12_readWoman_45 zs_1 (by unfold vp_in; decide) ?_
      refine z_iconst (v := (1 : Int32)) dX12_readWoman_46 rfl ?_
      refine z_iadd dX12_readWoman_47 ?_
      refine z_iast dX12_readWoman_48 zs_1 (by unfold vp_in; decide) ?_
      generalize hhM20 : zup M18 1 ((3 : Int32)).toNatClampNeg ((M18.1 1 ((3 : Int32)).toNatClampNeg) + (1 : Int32)) = M20
      have h21 := h19 M20 hhM20.symm
      refine z_iconst (v := (1 : Int32)) dX12_readWoman_49 rfl ?_
      exact z_iret dX12_readWoman_50 rfl (by decide) (by decide) h21
    · have h12 := h8.2 g10
      refine z_iconst (v := (0 : Int32)) dX12_readWoman_24 rfl ?_
      exact z_iret dX12_readWoman_25 rfl (by decide) (by decide) h12
  · have h6 := h2.2 g4
    refine z_iconst (v := (0 : Int32)) dX12_readWoman_8 rfl ?_
    exact z_iret dX12_readWoman_9 rfl (by decide) (by decide) h6
def w_X12_readCourtLine_139 (E : zEv) (D : Nat) (post : Int32 → zM → Prop) (px : String → zM → Prop)   (M : zM) : Prop := Z E jX12_readCourtLine (D + 1) 0 (zQi post px) 139 0 [zU] [] M
def w_X12_readCourtLine_140 (E : zEv) (D : Nat) (post : Int32 → zM → Prop) (px : String → zM → Prop)  (s0 : Int32) (M : zM) : Prop := Z E jX12_readCourtLine (D + 1) 0 (zQi post px) 140 0 [zU] [.int s0] M
theorem e_X12_readCourtLine {E : zEv} {D : Nat} {post : Int32 → zM → Prop} {px : String → zM → Prop} {M : zM}   (h : zCi E jX12_isWord D 0 [.ref 0, .ref (271 + 0)] M (fun r3 M1 => ((r3 = 0 → zCi E jX12_isWord D 0 [.ref 0, .ref (271 + 5)] M1 (fun r9 M7 => ((r9 = 0 → zCi E jX12_isWord D 0 [.ref 0, .ref (271 + 9)] M7 (fun r15 M13 => ((r15 = 0 → zCi E jX12_isWord D 0 [.ref 0, .ref (271 + 10)] M13 (fun r21 M19 => ((r21 = 0 → zCi E jX12_isWord D 0 [.ref 0, .ref (271 + 12)] M19 (fun r27 M25 => ((r27 = 0 → zCi E jX12_isWord D 0 [.ref 0, .ref (271 + 13)] M25 (fun r33 M31 => ((r33 = 0 → zCi E jX12_isWord D 0 [.ref 0, .ref (271 + 14)] M31 (fun r39 M37 => ((r39 = 0 → zCi E jX12_isWord D 0 [.ref 0, .ref (271 + 15)] M37 (fun r45 M43 => ((r45 = 0 → w_X12_readCourtLine_139 E D post px  M43) ∧ (¬ r45 = 0 → zCi E jX12_readNumber D 0 [.ref 0, .int (6 : Int32), .int (0 : Int32), .int (999 : Int32)] M43 (fun r51 M49 => ((r51 = 0 → w_X12_readCourtLine_139 E D post px  M49) ∧ (¬ r51 = 0 → w_X12_readCourtLine_140 E D post px (1 : Int32) M49))) px))) px) ∧ (¬ r39 = 0 → zCi E jX12_readNumber D 0 [.ref 0, .int (9 : Int32), .int (0 : Int32), .int (100 : Int32)] M37 (fun r57 M55 => (r57 = 0 ∨ r57 = 1) ∧ post r57 M55) px))) px) ∧ (¬ r33 = 0 → zCi E jX12_readNumber D 0 [.ref 0, .int (8 : Int32), .int (0 : Int32), .int (100 : Int32)] M31 (fun r62 M60 => (r62 = 0 ∨ r62 = 1) ∧ post r62 M60) px))) px) ∧ (¬ r27 = 0 → zCi E jX12_readNumber D 0 [.ref 0, .int (7 : Int32), .int (0 : Int32), .int (9 : Int32)] M25 (fun r67 M65 => (r67 = 0 ∨ r67 = 1) ∧ post r67 M65) px))) px) ∧ (¬ r21 = 0 → zCi E jX12_readWoman D 0 [.ref 0] M19 (fun r72 M70 => (r72 = 0 ∨ r72 = 1) ∧ post r72 M70) px))) px) ∧ (¬ r15 = 0 → zCi E jX12_readAsk D 0 [.ref 0] M13 (fun r77 M75 => (r77 = 0 ∨ r77 = 1) ∧ post r77 M75) px))) px) ∧ (¬ r9 = 0 → zCi E jX12_readThing D 0 [.ref 0] M7 (fun r82 M80 => (r82 = 0 ∨ r82 = 1) ∧ post r82 M80) px))) px) ∧ (¬ r3 = 0 → zCi E jX12_readWitness D 0 [.ref 0] M1 (fun r87 M85 => (r87 = 0 ∨ r87 = 1) ∧ post r87 M85) px))) px) : zCi E jX12_readCourtLine (D + 1) 0 [.ref 0] M post px := by
  refine z_meth (by decide) (Nat.le_of_ble_eq_true rfl) ?_
  show Z E jX12_readCourtLine (D + 1) 0 (zQi post px) 0 0 [.ref 0] [] M
  refine z_aload_n dX12_readCourtLine_0 rfl ?_
  refine z_ldcS (i := 50) dX12_readCourtLine_1 rfl ?_
  refine z_callVi (As := [.ref (271 + 0)]) (st := []) dX12_readCourtLine_3 zi_X12_137 rfl rfl zs_0 rfl rfl (Nat.le_of_ble_eq_true rfl) (by decide) (fun _ _ hx => hx) h ?_
  intro r3 M1 h2
  refine z_if_eq (tgt := 14) dX12_readCourtLine_6 (by decide) (fun g4 => ?_) (fun g4 => ?_)
  · have h5 := h2.1 g4
    refine z_aload_n dX12_readCourtLine_14 rfl ?_
    refine z_ldcS (i := 55) dX12_readCourtLine_15 rfl ?_
    refine z_callVi (As := [.ref (271 + 5)]) (st := []) dX12_readCourtLine_17 zi_X12_137 rfl rfl zs_0 rfl rfl (Nat.le_of_ble_eq_true rfl) (by decide) (fun _ _ hx => hx) h5 ?_
    intro r9 M7 h8
    refine z_if_eq (tgt := 28) dX12_readCourtLine_20 (by decide) (fun g10 => ?_) (fun g10 => ?_)
    · have h11 := h8.1 g10
      refine z_aload_n dX12_readCourtLine_28 rfl ?_
      refine z_ldcS (i := 59) dX12_readCourtLine_29 rfl ?_
      refine z_callVi (As := [.ref (271 + 9)]) (st := []) dX12_readCourtLine_31 zi_X12_137 rfl rfl zs_0 rfl rfl (Nat.le_of_ble_eq_true rfl) (by decide) (fun _ _ hx => hx) h11 ?_
      intro r15 M13 h14
      refine z_if_eq (tgt := 42) dX12_readCourtLine_34 (by decide) (fun g16 => ?_) (fun g16 => ?_)
      · have h17 := h14.1 g16
        refine z_aload_n dX12_readCourtLine_42 rfl ?_
        refine z_ldcS (i := 60) dX12_readCourtLine_43 rfl ?_
        refine z_callVi (As := [.ref (271 + 10)]) (st := []) dX12_readCourtLine_45 zi_X12_137 rfl rfl zs_0 rfl rfl (Nat.le_of_ble_eq_true rfl) (by decide) (fun _ _ hx => hx) h17 ?_
        intro r21 M19 h20
        refine z_if_eq (tgt := 56) dX12_readCourtLine_48 (by decide) (fun g22 => ?_) (fun g22 => ?_)
        · have h23 := h20.1 g22
          refine z_aload_n dX12_readCourtLine_56 rfl ?_
          refine z_ldcS (i := 62) dX12_readCourtLine_57 rfl ?_
          refine z_callVi (As := [.ref (271 + 12)]) (st := []) dX12_readCourtLine_59 zi_X12_137 rfl rfl zs_0 rfl rfl (Nat.le_of_ble_eq_true rfl) (by decide) (fun _ _ hx => hx) h23 ?_
          intro r27 M25 h26
          refine z_if_eq (tgt := 75) dX12_readCourtLine_62 (by decide) (fun g28 => ?_) (fun g28 => ?_)
          · have h29 := h26.1 g28
            refine z_aload_n dX12_readCourtLine_75 rfl ?_
            refine z_ldcS (i := 63) dX12_readCourtLine_76 rfl ?_
            refine z_callVi (As := [.ref (271 + 13)]) (st := []) dX12_readCourtLine_78 zi_X12_137 rfl rfl zs_0 rfl rfl (Nat.le_of_ble_eq_true rfl) (by decide) (fun _ _ hx => hx) h29 ?_
            intro r33 M31 h32
            refine z_if_eq (tgt := 94) dX12_readCourtLine_81 (by decide) (fun g34 => ?_) (fun g34 => ?_)
            · have h35 := h32.1 g34
              refine z_aload_n dX12_readCourtLine_94 rfl ?_
              refine z_ldcS (i := 64) dX12_readCourtLine_95 rfl ?_
              refine z_callVi (As := [.ref (271 + 14)]) (st := []) dX12_readCourtLine_97 zi_X12_137 rfl rfl zs_0 rfl rfl (Nat.le_of_ble_eq_true rfl) (by decide) (fun _ _ hx => hx) h35 ?_
              intro r39 M37 h38
              refine z_if_eq (tgt := 113) dX12_readCourtLine_100 (by decide) (fun g40 => ?_) (fun g40 => ?_)
              · have h41 := h38.1 g40
                refine z_aload_n dX12_readCourtLine_113 rfl ?_
                refine z_ldcS (i := 65) dX12_readCourtLine_114 rfl ?_
                refine z_callVi (As := [.ref (271 + 15)]) (st := []) dX12_readCourtLine_116 zi_X12_137 rfl rfl zs_0 rfl rfl (Nat.le_of_ble_eq_true rfl) (by decide) (fun _ _ hx => hx) h41 ?_
                intro r45 M43 h44
                refine z_if_eq (tgt := 139) dX12_readCourtLine_119 (by decide) (fun g46 => ?_) (fun g46 => ?_)
                · have h47 := h44.1 g46
                  refine z_weak [false] (ls' := [zU]) rfl rfl ?_
                  exact h47
                · have h48 := h44.2 g46
                  refine z_aload_n dX12_readCourtLine_122 rfl ?_
                  refine z_bipush (v := (6 : Int32)) dX12_readCourtLine_123 rfl ?_
                  refine z_iconst (v := (0 : Int32)) dX12_readCourtLine_125 rfl ?_
                  refine z_sipush (v := (999 : Int32)) dX12_readCourtLine_126 rfl ?_
                  refine z_callVi (As := [.int (6 : Int32), .int (0 : Int32), .int (999 : Int32)]) (st := []) dX12_readCourtLine_129 zi_X12_201 rfl rfl zs_0 rfl rfl (Nat.le_of_ble_eq_true rfl) (by decide) (fun _ _ hx => hx) h48 ?_
                  intro r51 M49 h50
                  refine z_if_eq (tgt := 139) dX12_readCourtLine_132 (by decide) (fun g52 => ?_) (fun g52 => ?_)
                  · have h53 := h50.1 g52
                    refine z_weak [false] (ls' := [zU]) rfl rfl ?_
                    exact h53
                  · have h54 := h50.2 g52
                    refine z_iconst (v := (1 : Int32)) dX12_readCourtLine_135 rfl ?_
                    refine z_goto (tgt := 140) dX12_readCourtLine_136 (by decide) ?_
                    refine z_weak [false] (ls' := [zU]) rfl rfl ?_
                    exact h54
              · have h42 := h38.2 g40
                refine z_aload_n dX12_readCourtLine_103 rfl ?_
                refine z_bipush (v := (9 : Int32)) dX12_readCourtLine_104 rfl ?_
                refine z_iconst (v := (0 : Int32)) dX12_readCourtLine_106 rfl ?_
                refine z_bipush (v := (100 : Int32)) dX12_readCourtLine_107 rfl ?_
                refine z_callVi (As := [.int (9 : Int32), .int (0 : Int32), .int (100 : Int32)]) (st := []) dX12_readCourtLine_109 zi_X12_201 rfl rfl zs_0 rfl rfl (Nat.le_of_ble_eq_true rfl) (by decide) (fun _ _ hx => hx) h42 ?_
                intro r57 M55 h56
                obtain ⟨g59, h58⟩ := h56
                exact z_iret dX12_readCourtLine_112 rfl (zbool g59) (by decide) h58
            · have h36 := h32.2 g34
              refine z_aload_n dX12_readCourtLine_84 rfl ?_
              refine z_bipush (v := (8 : Int32)) dX12_readCourtLine_85 rfl ?_
              refine z_iconst (v := (0 : Int32)) dX12_readCourtLine_87 rfl ?_
              refine z_bipush (v := (100 : Int32)) dX12_readCourtLine_88 rfl ?_
              refine z_callVi (As := [.int (8 : Int32), .int (0 : Int32), .int (100 : Int32)]) (st := []) dX12_readCourtLine_90 zi_X12_201 rfl rfl zs_0 rfl rfl (Nat.le_of_ble_eq_true rfl) (by decide) (fun _ _ hx => hx) h36 ?_
              intro r62 M60 h61
              obtain ⟨g64, h63⟩ := h61
              exact z_iret dX12_readCourtLine_93 rfl (zbool g64) (by decide) h63
          · have h30 := h26.2 g28
            refine z_aload_n dX12_readCourtLine_65 rfl ?_
            refine z_bipush (v := (7 : Int32)) dX12_readCourtLine_66 rfl ?_
            refine z_iconst (v := (0 : Int32)) dX12_readCourtLine_68 rfl ?_
            refine z_bipush (v := (9 : Int32)) dX12_readCourtLine_69 rfl ?_
            refine z_callVi (As := [.int (7 : Int32), .int (0 : Int32), .int (9 : Int32)]) (st := []) dX12_readCourtLine_71 zi_X12_201 rfl rfl zs_0 rfl rfl (Nat.le_of_ble_eq_true rfl) (by decide) (fun _ _ hx => hx) h30 ?_
            intro r67 M65 h66
            obtain ⟨g69, h68⟩ := h66
            exact z_iret dX12_readCourtLine_74 rfl (zbool g69) (by decide) h68
        · have h24 := h20.2 g22
          refine z_aload_n dX12_readCourtLine_51 rfl ?_
          refine z_callVi (As := []) (st := []) dX12_readCourtLine_52 zi_X12_196 rfl rfl zs_0 rfl rfl (Nat.le_of_ble_eq_true rfl) (by decide) (fun _ _ hx => hx) h24 ?_
          intro r72 M70 h71
          obtain ⟨g74, h73⟩ := h71
          exact z_iret dX12_readCourtLine_55 rfl (zbool g74) (by decide) h73
      · have h18 := h14.2 g16
        refine z_aload_n dX12_readCourtLine_37 rfl ?_
        refine z_callVi (As := []) (st := []) dX12_readCourtLine_38 zi_X12_191 rfl rfl zs_0 rfl rfl (Nat.le_of_ble_eq_true rfl) (by decide) (fun _ _ hx => hx) h18 ?_
        intro r77 M75 h76
        obtain ⟨g79, h78⟩ := h76
        exact z_iret dX12_readCourtLine_41 rfl (zbool g79) (by decide) h78
    · have h12 := h8.2 g10
      refine z_aload_n dX12_readCourtLine_23 rfl ?_
      refine z_callVi (As := []) (st := []) dX12_readCourtLine_24 zi_X12_186 rfl rfl zs_0 rfl rfl (Nat.le_of_ble_eq_true rfl) (by decide) (fun _ _ hx => hx) h12 ?_
      intro r82 M80 h81
      obtain ⟨g84, h83⟩ := h81
      exact z_iret dX12_readCourtLine_27 rfl (zbool g84) (by decide) h83
  · have h6 := h2.2 g4
    refine z_aload_n dX12_readCourtLine_9 rfl ?_
    refine z_callVi (As := []) (st := []) dX12_readCourtLine_10 zi_X12_180 rfl rfl zs_0 rfl rfl (Nat.le_of_ble_eq_true rfl) (by decide) (fun _ _ hx => hx) h6 ?_
    intro r87 M85 h86
    obtain ⟨g89, h88⟩ := h86
    exact z_iret dX12_readCourtLine_13 rfl (zbool g89) (by decide) h88
theorem t_X12_readCourtLine_139 {E : zEv} {D : Nat} {post : Int32 → zM → Prop} {px : String → zM → Prop} {M : zM}    (h : w_X12_readCourtLine_140 E D post px (0 : Int32) M) : w_X12_readCourtLine_139 E D post px  M := by
  show Z E jX12_readCourtLine (D + 1) 0 (zQi post px) 139 0 [zU] [] M
  refine z_iconst (v := (0 : Int32)) dX12_readCourtLine_139 rfl ?_
  exact h
theorem t_X12_readCourtLine_140 {E : zEv} {D : Nat} {post : Int32 → zM → Prop} {px : String → zM → Prop} {M : zM}   {s0 : Int32} (h : (s0 = 0 ∨ s0 = 1) ∧ post s0 M) : w_X12_readCourtLine_140 E D post px s0 M := by
  show Z E jX12_readCourtLine (D + 1) 0 (zQi post px) 140 0 [zU] [.int s0] M
  obtain ⟨g2, h1⟩ := h
  exact z_iret dX12_readCourtLine_140 rfl (zbool g2) (by decide) h1
theorem e_X12_emits {E : zEv} {D : Nat} {post : zM → Prop} {px : String → zM → Prop} {M : zM} {x1 : Int32} {x2 : Int32}  (h : vp_in ((1270 : Int32) + ((2 : Int32) * (M.1 0 16))) 2070 ∧ ∀ M3 : zM, M3 = zup M 1 (((1270 : Int32) + ((2 : Int32) * (M.1 0 16)))).toNatClampNeg x1 → vp_in (((1270 : Int32) + ((2 : Int32) * (M3.1 0 16))) + (1 : Int32)) 2070 ∧ ∀ M7 : zM, M7 = zup M3 1 ((((1270 : Int32) + ((2 : Int32) * (M3.1 0 16))) + (1 : Int32))).toNatClampNeg x2 → ∀ M9 : zM, M9 = zup M7 0 16 ((M7.1 0 16) + (1 : Int32)) → post M9) : zCv E jX12_emits D 0 [.ref 0, .int x1, .int x2] M post px := by
  refine z_meth (by decide) (Nat.le_of_ble_eq_true rfl) ?_
  show Z E jX12_emits D 0 (zQv post px) 0 0 [.ref 0, .int x1, .int x2] [] M
  refine z_aload_n dX12_emits_0 rfl ?_
  refine z_getR dX12_emits_1 zg_X12_13 zs_0 rfl ?_
  refine z_sipush (v := (1270 : Int32)) dX12_emits_4 rfl ?_
  refine z_iconst (v := (2 : Int32)) dX12_emits_7 rfl ?_
  refine z_aload_n dX12_emits_8 rfl ?_
  refine z_getI dX12_emits_9 zg_X12_210 zs_0 rfl ?_
  refine z_imul dX12_emits_12 ?_
  refine z_iadd dX12_emits_13 ?_
  refine z_iload_n dX12_emits_14 rfl ?_
  obtain ⟨g2, h1⟩ := h
  refine z_iast dX12_emits_15 zs_1 g2 ?_
  generalize hhM3 : zup M 1 (((1270 : Int32) + ((2 : Int32) * (M.1 0 16)))).toNatClampNeg x1 = M3
  have h4 := h1 M3 hhM3.symm
  refine z_aload_n dX12_emits_16 rfl ?_
  refine z_getR dX12_emits_17 zg_X12_13 zs_0 rfl ?_
  refine z_sipush (v := (1270 : Int32)) dX12_emits_20 rfl ?_
  refine z_iconst (v := (2 : Int32)) dX12_emits_23 rfl ?_
  refine z_aload_n dX12_emits_24 rfl ?_
  refine z_getI dX12_emits_25 zg_X12_210 zs_0 rfl ?_
  refine z_imul dX12_emits_28 ?_
  refine z_iadd dX12_emits_29 ?_
  refine z_iconst (v := (1 : Int32)) dX12_emits_30 rfl ?_
  refine z_iadd dX12_emits_31 ?_
  refine z_iload_n dX12_emits_32 rfl ?_
  obtain ⟨g6, h5⟩ := h4
  refine z_iast dX12_emits_33 zs_1 g6 ?_
  generalize hhM7 : zup M3 1 ((((1270 : Int32) + ((2 : Int32) * (M3.1 0 16))) + (1 : Int32))).toNatClampNeg x2 = M7
  have h8 := h5 M7 hhM7.symm
  refine z_aload_n dX12_emits_34 rfl ?_
  refine z_dup dX12_emits_35 rfl ?_
  refine z_getI dX12_emits_36 zg_X12_210 zs_0 rfl ?_
  refine z_iconst (v := (1 : Int32)) dX12_emits_39 rfl ?_
  refine z_iadd dX12_emits_40 ?_
  refine z_putI dX12_emits_41 zp_X12_210 zs_0 rfl rfl rfl ?_
  generalize hhM9 : zup M7 0 16 ((M7.1 0 16) + (1 : Int32)) = M9
  have h10 := h8 M9 hhM9.symm
  exact z_vret dX12_emits_44 rfl (by decide) h10
def w_X12_wordOfPart_93 (E : zEv) (D : Nat) (post : Int32 → zM → Prop) (px : String → zM → Prop)  (s0 : Int32) (M : zM) : Prop := Z E jX12_wordOfPart (D + 1) 0 (zQi post px) 93 0 [zU] [.int s0] M
theorem e_X12_wordOfPart {E : zEv} {D : Nat} {post : Int32 → zM → Prop} {px : String → zM → Prop} {M : zM}   (h : zCi E jX12_isWord D 0 [.ref 0, .ref (271 + 0)] M (fun r3 M1 => ((r3 = 0 → zCi E jX12_isWord D 0 [.ref 0, .ref (271 + 1)] M1 (fun r9 M7 => ((r9 = 0 → zCi E jX12_isWord D 0 [.ref 0, .ref (271 + 2)] M7 (fun r15 M13 => ((r15 = 0 → zCi E jX12_isWord D 0 [.ref 0, .ref (271 + 3)] M13 (fun r21 M19 => ((r21 = 0 → zCi E jX12_isWord D 0 [.ref 0, .ref (271 + 4)] M19 (fun r27 M25 => ((r27 = 0 → zCi E jX12_isWord D 0 [.ref 0, .ref (271 + 12)] M25 (fun r33 M31 => ((r33 = 0 → zCi E jX12_isWord D 0 [.ref 0, .ref (271 + 6)] M31 (fun r39 M37 => ((r39 = 0 → zCi E jX12_isWord D 0 [.ref 0, .ref (271 + 26)] M37 (fun r45 M43 => ((r45 = 0 → w_X12_wordOfPart_93 E D post px (-1 : Int32) M43) ∧ (¬ r45 = 0 → w_X12_wordOfPart_93 E D post px (7 : Int32) M43))) px) ∧ (¬ r39 = 0 → post (6 : Int32) M37))) px) ∧ (¬ r33 = 0 → post (5 : Int32) M31))) px) ∧ (¬ r27 = 0 → post (4 : Int32) M25))) px) ∧ (¬ r21 = 0 → post (3 : Int32) M19))) px) ∧ (¬ r15 = 0 → post (2 : Int32) M13))) px) ∧ (¬ r9 = 0 → post (1 : Int32) M7))) px) ∧ (¬ r3 = 0 → post (0 : Int32) M1))) px) : zCi E jX12_wordOfPart (D + 1) 0 [.ref 0] M post px := by
  refine z_meth (by decide) (Nat.le_of_ble_eq_true rfl) ?_
  show Z E jX12_wordOfPart (D + 1) 0 (zQi post px) 0 0 [.ref 0] [] M
  refine z_aload_n dX12_wordOfPart_0 rfl ?_
  refine z_ldcS (i := 50) dX12_wordOfPart_1 rfl ?_
  refine z_callVi (As := [.ref (271 + 0)]) (st := []) dX12_wordOfPart_3 zi_X12_137 rfl rfl zs_0 rfl rfl (Nat.le_of_ble_eq_true rfl) (by decide) (fun _ _ hx => hx) h ?_
  intro r3 M1 h2
  refine z_if_eq (tgt := 11) dX12_wordOfPart_6 (by decide) (fun g4 => ?_) (fun g4 => ?_)
  · have h5 := h2.1 g4
    refine z_aload_n dX12_wordOfPart_11 rfl ?_
    refine z_ldcS (i := 51) dX12_wordOfPart_12 rfl ?_
    refine z_callVi (As := [.ref (271 + 1)]) (st := []) dX12_wordOfPart_14 zi_X12_137 rfl rfl zs_0 rfl rfl (Nat.le_of_ble_eq_true rfl) (by decide) (fun _ _ hx => hx) h5 ?_
    intro r9 M7 h8
    refine z_if_eq (tgt := 22) dX12_wordOfPart_17 (by decide) (fun g10 => ?_) (fun g10 => ?_)
    · have h11 := h8.1 g10
      refine z_aload_n dX12_wordOfPart_22 rfl ?_
      refine z_ldcS (i := 52) dX12_wordOfPart_23 rfl ?_
      refine z_callVi (As := [.ref (271 + 2)]) (st := []) dX12_wordOfPart_25 zi_X12_137 rfl rfl zs_0 rfl rfl (Nat.le_of_ble_eq_true rfl) (by decide) (fun _ _ hx => hx) h11 ?_
      intro r15 M13 h14
      refine z_if_eq (tgt := 33) dX12_wordOfPart_28 (by decide) (fun g16 => ?_) (fun g16 => ?_)
      · have h17 := h14.1 g16
        refine z_aload_n dX12_wordOfPart_33 rfl ?_
        refine z_ldcS (i := 53) dX12_wordOfPart_34 rfl ?_
        refine z_callVi (As := [.ref (271 + 3)]) (st := []) dX12_wordOfPart_36 zi_X12_137 rfl rfl zs_0 rfl rfl (Nat.le_of_ble_eq_true rfl) (by decide) (fun _ _ hx => hx) h17 ?_
        intro r21 M19 h20
        refine z_if_eq (tgt := 44) dX12_wordOfPart_39 (by decide) (fun g22 => ?_) (fun g22 => ?_)
        · have h23 := h20.1 g22
          refine z_aload_n dX12_wordOfPart_44 rfl ?_
          refine z_ldcS (i := 54) dX12_wordOfPart_45 rfl ?_
          refine z_callVi (As := [.ref (271 + 4)]) (st := []) dX12_wordOfPart_47 zi_X12_137 rfl rfl zs_0 rfl rfl (Nat.le_of_ble_eq_true rfl) (by decide) (fun _ _ hx => hx) h23 ?_
          intro r27 M25 h26
          refine z_if_eq (tgt := 55) dX12_wordOfPart_50 (by decide) (fun g28 => ?_) (fun g28 => ?_)
          · have h29 := h26.1 g28
            refine z_aload_n dX12_wordOfPart_55 rfl ?_
            refine z_ldcS (i := 62) dX12_wordOfPart_56 rfl ?_
            refine z_callVi (As := [.ref (271 + 12)]) (st := []) dX12_wordOfPart_58 zi_X12_137 rfl rfl zs_0 rfl rfl (Nat.le_of_ble_eq_true rfl) (by decide) (fun _ _ hx => hx) h29 ?_
            intro r33 M31 h32
            refine z_if_eq (tgt := 66) dX12_wordOfPart_61 (by decide) (fun g34 => ?_) (fun g34 => ?_)
            · have h35 := h32.1 g34
              refine z_aload_n dX12_wordOfPart_66 rfl ?_
              refine z_ldcS (i := 56) dX12_wordOfPart_67 rfl ?_
              refine z_callVi (As := [.ref (271 + 6)]) (st := []) dX12_wordOfPart_69 zi_X12_137 rfl rfl zs_0 rfl rfl (Nat.le_of_ble_eq_true rfl) (by decide) (fun _ _ hx => hx) h35 ?_
              intro r39 M37 h38
              refine z_if_eq (tgt := 78) dX12_wordOfPart_72 (by decide) (fun g40 => ?_) (fun g40 => ?_)
              · have h41 := h38.1 g40
                refine z_aload_n dX12_wordOfPart_78 rfl ?_
                refine z_ldcS (i := 74) dX12_wordOfPart_79 rfl ?_
                refine z_callVi (As := [.ref (271 + 26)]) (st := []) dX12_wordOfPart_81 zi_X12_137 rfl rfl zs_0 rfl rfl (Nat.le_of_ble_eq_true rfl) (by decide) (fun _ _ hx => hx) h41 ?_
                intro r45 M43 h44
                refine z_if_eq (tgt := 92) dX12_wordOfPart_84 (by decide) (fun g46 => ?_) (fun g46 => ?_)
                · have h47 := h44.1 g46
                  refine z_iconst (v := (-1 : Int32)) dX12_wordOfPart_92 rfl ?_
                  refine z_weak [false] (ls' := [zU]) rfl rfl ?_
                  exact h47
                · have h48 := h44.2 g46
                  refine z_bipush (v := (7 : Int32)) dX12_wordOfPart_87 rfl ?_
                  refine z_goto (tgt := 93) dX12_wordOfPart_89 (by decide) ?_
                  refine z_weak [false] (ls' := [zU]) rfl rfl ?_
                  exact h48
              · have h42 := h38.2 g40
                refine z_bipush (v := (6 : Int32)) dX12_wordOfPart_75 rfl ?_
                exact z_iret dX12_wordOfPart_77 rfl rfl (by decide) h42
            · have h36 := h32.2 g34
              refine z_iconst (v := (5 : Int32)) dX12_wordOfPart_64 rfl ?_
              exact z_iret dX12_wordOfPart_65 rfl rfl (by decide) h36
          · have h30 := h26.2 g28
            refine z_iconst (v := (4 : Int32)) dX12_wordOfPart_53 rfl ?_
            exact z_iret dX12_wordOfPart_54 rfl rfl (by decide) h30
        · have h24 := h20.2 g22
          refine z_iconst (v := (3 : Int32)) dX12_wordOfPart_42 rfl ?_
          exact z_iret dX12_wordOfPart_43 rfl rfl (by decide) h24
      · have h18 := h14.2 g16
        refine z_iconst (v := (2 : Int32)) dX12_wordOfPart_31 rfl ?_
        exact z_iret dX12_wordOfPart_32 rfl rfl (by decide) h18
    · have h12 := h8.2 g10
      refine z_iconst (v := (1 : Int32)) dX12_wordOfPart_20 rfl ?_
      exact z_iret dX12_wordOfPart_21 rfl rfl (by decide) h12
  · have h6 := h2.2 g4
    refine z_iconst (v := (0 : Int32)) dX12_wordOfPart_9 rfl ?_
    exact z_iret dX12_wordOfPart_10 rfl rfl (by decide) h6
theorem t_X12_wordOfPart_93 {E : zEv} {D : Nat} {post : Int32 → zM → Prop} {px : String → zM → Prop} {M : zM}   {s0 : Int32} (h : post s0 M) : w_X12_wordOfPart_93 E D post px s0 M := by
  show Z E jX12_wordOfPart (D + 1) 0 (zQi post px) 93 0 [zU] [.int s0] M
  exact z_iret dX12_wordOfPart_93 rfl rfl (by decide) h
def w_X12_readPart_20 (E : zEv) (D : Nat) (post : Int32 → zM → Prop) (px : String → zM → Prop)  (s0 : Int32) (M : zM) : Prop := Z E jX12_readPart (D + 1) 0 (zQi post px) 20 0 [.ref 0, zU, zU] [.int s0] M
def w_X12_readPart_40 (E : zEv) (D : Nat) (post : Int32 → zM → Prop) (px : String → zM → Prop)  (y1 : Int32) (s0 : Int32) (M : zM) : Prop := Z E jX12_readPart (D + 1) 0 (zQi post px) 40 0 [.ref 0, .int y1, zU] [.int s0] M
def w_X12_readPart_52 (E : zEv) (D : Nat) (post : Int32 → zM → Prop) (px : String → zM → Prop)  (y1 : Int32) (y2 : Int32) (s0 : Int32) (M : zM) : Prop := Z E jX12_readPart (D + 1) 0 (zQi post px) 52 0 [zU, .int y1, .int y2] [.int s0, .ref 0] M
def w_X12_readPart_61 (E : zEv) (D : Nat) (post : Int32 → zM → Prop) (px : String → zM → Prop)  (y2 : Int32) (s0 : Int32) (s1 : Int32) (M : zM) : Prop := Z E jX12_readPart (D + 1) 0 (zQi post px) 61 0 [zU, zU, .int y2] [.int s0, .int s1, .ref 0] M
def w_X12_readPart_73 (E : zEv) (D : Nat) (post : Int32 → zM → Prop) (px : String → zM → Prop)  (s0 : Int32) (M : zM) : Prop := Z E jX12_readPart (D + 1) 0 (zQi post px) 73 0 [zU, zU, zU] [.int s0] M
theorem e_X12_readPart {E : zEv} {D : Nat} {post : Int32 → zM → Prop} {px : String → zM → Prop} {M : zM}   (h : zCv E jX12_letters D 0 [.ref 0] M (fun M1 => ((¬ (M1.1 0 10) = (M1.1 0 12) → w_X12_readPart_20 E D post px (0 : Int32) M1) ∧ ((M1.1 0 10) = (M1.1 0 12) → w_X12_readPart_20 E D post px (1 : Int32) M1))) px) : zCi E jX12_readPart (D + 1) 0 [.ref 0] M post px := by
  refine z_meth (by decide) (Nat.le_of_ble_eq_true rfl) ?_
  show Z E jX12_readPart (D + 1) 0 (zQi post px) 0 0 [.ref 0, zU, zU] [] M
  refine z_aload_n dX12_readPart_0 rfl ?_
  refine z_callVv (As := []) (st := []) dX12_readPart_1 zi_X12_134 rfl rfl zs_0 rfl rfl (Nat.le_of_ble_eq_true rfl) (by decide) (fun _ _ hx => hx) h ?_
  intro M1 h2
  refine z_aload_n dX12_readPart_4 rfl ?_
  refine z_getI dX12_readPart_5 zg_X12_109 zs_0 rfl ?_
  refine z_aload_n dX12_readPart_8 rfl ?_
  refine z_getI dX12_readPart_9 zg_X12_119 zs_0 rfl ?_
  refine z_icmp_ne (tgt := 19) dX12_readPart_12 (by decide) (fun g3 => ?_) (fun g3 => ?_)
  · have h4 := h2.1 g3
    refine z_iconst (v := (0 : Int32)) dX12_readPart_19 rfl ?_
    exact h4
  · have h5 := h2.2 g3
    refine z_iconst (v := (1 : Int32)) dX12_readPart_15 rfl ?_
    refine z_goto (tgt := 20) dX12_readPart_16 (by decide) ?_
    exact h5
theorem t_X12_readPart_20 {E : zEv} {D : Nat} {post : Int32 → zM → Prop} {px : String → zM → Prop} {M : zM}   {s0 : Int32} (h : ((s0 = 0 → zCi E jX12_wordOfPart D 0 [.ref 0] M (fun r6 M4 => w_X12_readPart_40 E D post px s0 r6 M4) px) ∧ (¬ s0 = 0 → zCi E jX12_number D 0 [.ref 0, .int (0 : Int32), .int (999 : Int32)] M (fun r9 M7 => w_X12_readPart_40 E D post px s0 r9 M7) px))) : w_X12_readPart_20 E D post px s0 M := by
  show Z E jX12_readPart (D + 1) 0 (zQi post px) 20 0 [.ref 0, zU, zU] [.int s0] M
  refine z_istore_n dX12_readPart_20 (by decide) (ls' := [.ref 0, .int s0, zU]) rfl ?_
  refine z_iload_n dX12_readPart_21 rfl ?_
  refine z_if_eq (tgt := 36) dX12_readPart_22 (by decide) (fun g1 => ?_) (fun g1 => ?_)
  · have h2 := h.1 g1
    refine z_aload_n dX12_readPart_36 rfl ?_
    refine z_callVi (As := []) (st := []) dX12_readPart_37 zi_X12_215 rfl rfl zs_0 rfl rfl (Nat.le_of_ble_eq_true rfl) (by decide) (fun _ _ hx => hx) h2 ?_
    intro r6 M4 h5
    exact h5
  · have h3 := h.2 g1
    refine z_aload_n dX12_readPart_25 rfl ?_
    refine z_iconst (v := (0 : Int32)) dX12_readPart_26 rfl ?_
    refine z_sipush (v := (999 : Int32)) dX12_readPart_27 rfl ?_
    refine z_callVi (As := [.int (0 : Int32), .int (999 : Int32)]) (st := []) dX12_readPart_30 zi_X12_141 rfl rfl zs_0 rfl rfl (Nat.le_of_ble_eq_true rfl) (by decide) (fun _ _ hx => hx) h3 ?_
    intro r9 M7 h8
    refine z_goto (tgt := 40) dX12_readPart_33 (by decide) ?_
    exact h8
theorem t_X12_readPart_40 {E : zEv} {D : Nat} {post : Int32 → zM → Prop} {px : String → zM → Prop} {M : zM}   {y1 : Int32} {s0 : Int32} (h : ((y1 = 0 → w_X12_readPart_52 E D post px y1 s0 s0 M) ∧ (¬ y1 = 0 → w_X12_readPart_52 E D post px y1 s0 (11 : Int32) M))) : w_X12_readPart_40 E D post px y1 s0 M := by
  show Z E jX12_readPart (D + 1) 0 (zQi post px) 40 0 [.ref 0, .int y1, zU] [.int s0] M
  refine z_istore_n dX12_readPart_40 (by decide) (ls' := [.ref 0, .int y1, .int s0]) rfl ?_
  refine z_aload_n dX12_readPart_41 rfl ?_
  refine z_iload_n dX12_readPart_42 rfl ?_
  refine z_if_eq (tgt := 51) dX12_readPart_43 (by decide) (fun g1 => ?_) (fun g1 => ?_)
  · have h2 := h.1 g1
    refine z_iload_n dX12_readPart_51 rfl ?_
    refine z_weak [false, true, true] (ls' := [zU, .int y1, .int s0]) rfl rfl ?_
    exact h2
  · have h3 := h.2 g1
    refine z_bipush (v := (11 : Int32)) dX12_readPart_46 rfl ?_
    refine z_goto (tgt := 52) dX12_readPart_48 (by decide) ?_
    refine z_weak [false, true, true] (ls' := [zU, .int y1, .int s0]) rfl rfl ?_
    exact h3
theorem t_X12_readPart_52 {E : zEv} {D : Nat} {post : Int32 → zM → Prop} {px : String → zM → Prop} {M : zM}   {y1 : Int32} {y2 : Int32} {s0 : Int32} (h : ((y1 = 0 → w_X12_readPart_61 E D post px y2 (0 : Int32) s0 M) ∧ (¬ y1 = 0 → w_X12_readPart_61 E D post px y2 y2 s0 M))) : w_X12_readPart_52 E D post px y1 y2 s0 M := by
  show Z E jX12_readPart (D + 1) 0 (zQi post px) 52 0 [zU, .int y1, .int y2] [.int s0, .ref 0] M
  refine z_iload_n dX12_readPart_52 rfl ?_
  refine z_if_eq (tgt := 60) dX12_readPart_53 (by decide) (fun g1 => ?_) (fun g1 => ?_)
  · have h2 := h.1 g1
    refine z_iconst (v := (0 : Int32)) dX12_readPart_60 rfl ?_
    refine z_weak [false, false, true] (ls' := [zU, zU, .int y2]) rfl rfl ?_
    exact h2
  · have h3 := h.2 g1
    refine z_iload_n dX12_readPart_56 rfl ?_
    refine z_goto (tgt := 61) dX12_readPart_57 (by decide) ?_
    refine z_weak [false, false, true] (ls' := [zU, zU, .int y2]) rfl rfl ?_
    exact h3
theorem t_X12_readPart_61 {E : zEv} {D : Nat} {post : Int32 → zM → Prop} {px : String → zM → Prop} {M : zM}   {y2 : Int32} {s0 : Int32} {s1 : Int32} (h : zCv E jX12_emits D 0 [.ref 0, .int s1, .int s0] M (fun M1 => ((y2 < 0 → w_X12_readPart_73 E D post px (0 : Int32) M1) ∧ (¬ y2 < 0 → w_X12_readPart_73 E D post px (1 : Int32) M1))) px) : w_X12_readPart_61 E D post px y2 s0 s1 M := by
  show Z E jX12_readPart (D + 1) 0 (zQi post px) 61 0 [zU, zU, .int y2] [.int s0, .int s1, .ref 0] M
  refine z_callVv (As := [.int s1, .int s0]) (st := []) dX12_readPart_61 zi_X12_218 rfl rfl zs_0 rfl rfl (Nat.le_of_ble_eq_true rfl) (by decide) (fun _ _ hx => hx) h ?_
  intro M1 h2
  refine z_iload_n dX12_readPart_64 rfl ?_
  refine z_if_lt (tgt := 72) dX12_readPart_65 (by decide) (fun g3 => ?_) (fun g3 => ?_)
  · have h4 := h2.1 g3
    refine z_iconst (v := (0 : Int32)) dX12_readPart_72 rfl ?_
    refine z_weak [false, false, false] (ls' := [zU, zU, zU]) rfl rfl ?_
    exact h4
  · have h5 := h2.2 g3
    refine z_iconst (v := (1 : Int32)) dX12_readPart_68 rfl ?_
    refine z_goto (tgt := 73) dX12_readPart_69 (by decide) ?_
    refine z_weak [false, false, false] (ls' := [zU, zU, zU]) rfl rfl ?_
    exact h5
theorem t_X12_readPart_73 {E : zEv} {D : Nat} {post : Int32 → zM → Prop} {px : String → zM → Prop} {M : zM}   {s0 : Int32} (h : (s0 = 0 ∨ s0 = 1) ∧ post s0 M) : w_X12_readPart_73 E D post px s0 M := by
  show Z E jX12_readPart (D + 1) 0 (zQi post px) 73 0 [zU, zU, zU] [.int s0] M
  obtain ⟨g2, h1⟩ := h
  exact z_iret dX12_readPart_73 rfl (zbool g2) (by decide) h1
def w_X12_readSum_9 (E : zEv) (D : Nat) (post : Int32 → zM → Prop) (px : String → zM → Prop)   (M : zM) : Prop := Z E jX12_readSum (D + 1) 0 (zQi post px) 9 0 [.ref 0] [] M
theorem e_X12_readSum {E : zEv} {D : Nat} {post : Int32 → zM → Prop} {px : String → zM → Prop} {M : zM}   (h : zCi E jX12_readPart D 0 [.ref 0] M (fun r3 M1 => ((¬ r3 = 0 → w_X12_readSum_9 E D post px  M1) ∧ (r3 = 0 → post (0 : Int32) M1))) px) : zCi E jX12_readSum (D + 1) 0 [.ref 0] M post px := by
  refine z_meth (by decide) (Nat.le_of_ble_eq_true rfl) ?_
  show Z E jX12_readSum (D + 1) 0 (zQi post px) 0 0 [.ref 0] [] M
  refine z_aload_n dX12_readSum_0 rfl ?_
  refine z_callVi (As := []) (st := []) dX12_readSum_1 zi_X12_222 rfl rfl zs_0 rfl rfl (Nat.le_of_ble_eq_true rfl) (by decide) (fun _ _ hx => hx) h ?_
  intro r3 M1 h2
  refine z_if_ne (tgt := 9) dX12_readSum_4 (by decide) (fun g4 => ?_) (fun g4 => ?_)
  · have h5 := h2.1 g4
    exact h5
  · have h6 := h2.2 g4
    refine z_iconst (v := (0 : Int32)) dX12_readSum_7 rfl ?_
    exact z_iret dX12_readSum_8 rfl (by decide) (by decide) h6
theorem t_X12_readSum_9 {E : zEv} {D : Nat} {post : Int32 → zM → Prop} {px : String → zM → Prop} {M : zM}    (h : zCi E jX12_sign D 0 [.ref 0, .int (43 : Int32)] M (fun r3 M1 => ((r3 = 0 → post (1 : Int32) M1) ∧ (¬ r3 = 0 → zCi E jX12_readPart D 0 [.ref 0] M1 (fun r9 M7 => ((¬ r9 = 0 → zCv E jX12_emits D 0 [.ref 0, .int (12 : Int32), .int (0 : Int32)] M7 (fun M13 => w_X12_readSum_9 E D post px  M13) px) ∧ (r9 = 0 → post (0 : Int32) M7))) px))) px) : w_X12_readSum_9 E D post px  M := by
  show Z E jX12_readSum (D + 1) 0 (zQi post px) 9 0 [.ref 0] [] M
  refine z_aload_n dX12_readSum_9 rfl ?_
  refine z_bipush (v := (43 : Int32)) dX12_readSum_10 rfl ?_
  refine z_callVi (As := [.int (43 : Int32)]) (st := []) dX12_readSum_12 zi_X12_225 rfl rfl zs_0 rfl rfl (Nat.le_of_ble_eq_true rfl) (by decide) (fun _ _ hx => hx) h ?_
  intro r3 M1 h2
  refine z_if_eq (tgt := 37) dX12_readSum_15 (by decide) (fun g4 => ?_) (fun g4 => ?_)
  · have h5 := h2.1 g4
    refine z_iconst (v := (1 : Int32)) dX12_readSum_37 rfl ?_
    exact z_iret dX12_readSum_38 rfl (by decide) (by decide) h5
  · have h6 := h2.2 g4
    refine z_aload_n dX12_readSum_18 rfl ?_
    refine z_callVi (As := []) (st := []) dX12_readSum_19 zi_X12_222 rfl rfl zs_0 rfl rfl (Nat.le_of_ble_eq_true rfl) (by decide) (fun _ _ hx => hx) h6 ?_
    intro r9 M7 h8
    refine z_if_ne (tgt := 27) dX12_readSum_22 (by decide) (fun g10 => ?_) (fun g10 => ?_)
    · have h11 := h8.1 g10
      refine z_aload_n dX12_readSum_27 rfl ?_
      refine z_bipush (v := (12 : Int32)) dX12_readSum_28 rfl ?_
      refine z_iconst (v := (0 : Int32)) dX12_readSum_30 rfl ?_
      refine z_callVv (As := [.int (12 : Int32), .int (0 : Int32)]) (st := []) dX12_readSum_31 zi_X12_218 rfl rfl zs_0 rfl rfl (Nat.le_of_ble_eq_true rfl) (by decide) (fun _ _ hx => hx) h11 ?_
      intro M13 h14
      refine z_goto (tgt := 9) dX12_readSum_34 (by decide) ?_
      exact h14
    · have h12 := h8.2 g10
      refine z_iconst (v := (0 : Int32)) dX12_readSum_25 rfl ?_
      exact z_iret dX12_readSum_26 rfl (by decide) (by decide) h12
def w_X12_readTag_47 (E : zEv) (D : Nat) (post : Int32 → zM → Prop) (px : String → zM → Prop)  (s0 : Int32) (M : zM) : Prop := Z E jX12_readTag (D + 1) 0 (zQi post px) 47 0 [.ref 0, zU] [.int s0] M
def w_X12_readTag_69 (E : zEv) (D : Nat) (post : Int32 → zM → Prop) (px : String → zM → Prop)  (y1 : Int32) (M : zM) : Prop := Z E jX12_readTag (D + 1) 0 (zQi post px) 69 0 [zU, .int y1] [] M
def w_X12_readTag_78 (E : zEv) (D : Nat) (post : Int32 → zM → Prop) (px : String → zM → Prop)  (s0 : Int32) (M : zM) : Prop := Z E jX12_readTag (D + 1) 0 (zQi post px) 78 0 [zU, zU] [.int s0] M
theorem e_X12_readTag {E : zEv} {D : Nat} {post : Int32 → zM → Prop} {px : String → zM → Prop} {M : zM}   (h : zCv E jX12_letters D 0 [.ref 0] M (fun M1 => zCi E jX12_isWord D 0 [.ref 0, .ref (271 + 23)] M1 (fun r5 M3 => ((r5 = 0 → zCi E jX12_isWord D 0 [.ref 0, .ref (271 + 24)] M3 (fun r11 M9 => ((r11 = 0 → zCi E jX12_isWord D 0 [.ref 0, .ref (271 + 25)] M9 (fun r17 M15 => ((r17 = 0 → w_X12_readTag_47 E D post px (-1 : Int32) M15) ∧ (¬ r17 = 0 → w_X12_readTag_47 E D post px (10 : Int32) M15))) px) ∧ (¬ r11 = 0 → w_X12_readTag_47 E D post px (9 : Int32) M9))) px) ∧ (¬ r5 = 0 → w_X12_readTag_47 E D post px (8 : Int32) M3))) px) px) : zCi E jX12_readTag (D + 1) 0 [.ref 0] M post px := by
  refine z_meth (by decide) (Nat.le_of_ble_eq_true rfl) ?_
  show Z E jX12_readTag (D + 1) 0 (zQi post px) 0 0 [.ref 0, zU] [] M
  refine z_aload_n dX12_readTag_0 rfl ?_
  refine z_callVv (As := []) (st := []) dX12_readTag_1 zi_X12_134 rfl rfl zs_0 rfl rfl (Nat.le_of_ble_eq_true rfl) (by decide) (fun _ _ hx => hx) h ?_
  intro M1 h2
  refine z_aload_n dX12_readTag_4 rfl ?_
  refine z_ldcS (i := 71) dX12_readTag_5 rfl ?_
  refine z_callVi (As := [.ref (271 + 23)]) (st := []) dX12_readTag_7 zi_X12_137 rfl rfl zs_0 rfl rfl (Nat.le_of_ble_eq_true rfl) (by decide) (fun _ _ hx => hx) h2 ?_
  intro r5 M3 h4
  refine z_if_eq (tgt := 18) dX12_readTag_10 (by decide) (fun g6 => ?_) (fun g6 => ?_)
  · have h7 := h4.1 g6
    refine z_aload_n dX12_readTag_18 rfl ?_
    refine z_ldcS (i := 72) dX12_readTag_19 rfl ?_
    refine z_callVi (As := [.ref (271 + 24)]) (st := []) dX12_readTag_21 zi_X12_137 rfl rfl zs_0 rfl rfl (Nat.le_of_ble_eq_true rfl) (by decide) (fun _ _ hx => hx) h7 ?_
    intro r11 M9 h10
    refine z_if_eq (tgt := 32) dX12_readTag_24 (by decide) (fun g12 => ?_) (fun g12 => ?_)
    · have h13 := h10.1 g12
      refine z_aload_n dX12_readTag_32 rfl ?_
      refine z_ldcS (i := 73) dX12_readTag_33 rfl ?_
      refine z_callVi (As := [.ref (271 + 25)]) (st := []) dX12_readTag_35 zi_X12_137 rfl rfl zs_0 rfl rfl (Nat.le_of_ble_eq_true rfl) (by decide) (fun _ _ hx => hx) h13 ?_
      intro r17 M15 h16
      refine z_if_eq (tgt := 46) dX12_readTag_38 (by decide) (fun g18 => ?_) (fun g18 => ?_)
      · have h19 := h16.1 g18
        refine z_iconst (v := (-1 : Int32)) dX12_readTag_46 rfl ?_
        exact h19
      · have h20 := h16.2 g18
        refine z_bipush (v := (10 : Int32)) dX12_readTag_41 rfl ?_
        refine z_goto (tgt := 47) dX12_readTag_43 (by decide) ?_
        exact h20
    · have h14 := h10.2 g12
      refine z_bipush (v := (9 : Int32)) dX12_readTag_27 rfl ?_
      refine z_goto (tgt := 47) dX12_readTag_29 (by decide) ?_
      exact h14
  · have h8 := h4.2 g6
    refine z_bipush (v := (8 : Int32)) dX12_readTag_13 rfl ?_
    refine z_goto (tgt := 47) dX12_readTag_15 (by decide) ?_
    exact h8
theorem t_X12_readTag_47 {E : zEv} {D : Nat} {post : Int32 → zM → Prop} {px : String → zM → Prop} {M : zM}   {s0 : Int32} (h : ((s0 < 0 → ∀ M4 : zM, M4 = zup M 0 10 (M.1 0 12) → w_X12_readTag_69 E D post px s0 M4) ∧ (¬ s0 < 0 → zCv E jX12_emits D 0 [.ref 0, .int s0, .int (0 : Int32)] M (fun M6 => w_X12_readTag_69 E D post px s0 M6) px))) : w_X12_readTag_47 E D post px s0 M := by
  show Z E jX12_readTag (D + 1) 0 (zQi post px) 47 0 [.ref 0, zU] [.int s0] M
  refine z_istore_n dX12_readTag_47 (by decide) (ls' := [.ref 0, .int s0]) rfl ?_
  refine z_iload_n dX12_readTag_48 rfl ?_
  refine z_if_lt (tgt := 61) dX12_readTag_49 (by decide) (fun g1 => ?_) (fun g1 => ?_)
  · have h2 := h.1 g1
    refine z_aload_n dX12_readTag_61 rfl ?_
    refine z_aload_n dX12_readTag_62 rfl ?_
    refine z_getI dX12_readTag_63 zg_X12_119 zs_0 rfl ?_
    refine z_putI dX12_readTag_66 zp_X12_109 zs_0 rfl rfl rfl ?_
    generalize hhM4 : zup M 0 10 (M.1 0 12) = M4
    have h5 := h2 M4 hhM4.symm
    refine z_weak [false, true] (ls' := [zU, .int s0]) rfl rfl ?_
    exact h5
  · have h3 := h.2 g1
    refine z_aload_n dX12_readTag_52 rfl ?_
    refine z_iload_n dX12_readTag_53 rfl ?_
    refine z_iconst (v := (0 : Int32)) dX12_readTag_54 rfl ?_
    refine z_callVv (As := [.int s0, .int (0 : Int32)]) (st := []) dX12_readTag_55 zi_X12_218 rfl rfl zs_0 rfl rfl (Nat.le_of_ble_eq_true rfl) (by decide) (fun _ _ hx => hx) h3 ?_
    intro M6 h7
    refine z_goto (tgt := 69) dX12_readTag_58 (by decide) ?_
    refine z_weak [false, true] (ls' := [zU, .int s0]) rfl rfl ?_
    exact h7
theorem t_X12_readTag_69 {E : zEv} {D : Nat} {post : Int32 → zM → Prop} {px : String → zM → Prop} {M : zM}   {y1 : Int32} (h : ((y1 < 0 → w_X12_readTag_78 E D post px (0 : Int32) M) ∧ (¬ y1 < 0 → w_X12_readTag_78 E D post px (1 : Int32) M))) : w_X12_readTag_69 E D post px y1 M := by
  show Z E jX12_readTag (D + 1) 0 (zQi post px) 69 0 [zU, .int y1] [] M
  refine z_iload_n dX12_readTag_69 rfl ?_
  refine z_if_lt (tgt := 77) dX12_readTag_70 (by decide) (fun g1 => ?_) (fun g1 => ?_)
  · have h2 := h.1 g1
    refine z_iconst (v := (0 : Int32)) dX12_readTag_77 rfl ?_
    refine z_weak [false, false] (ls' := [zU, zU]) rfl rfl ?_
    exact h2
  · have h3 := h.2 g1
    refine z_iconst (v := (1 : Int32)) dX12_readTag_73 rfl ?_
    refine z_goto (tgt := 78) dX12_readTag_74 (by decide) ?_
    refine z_weak [false, false] (ls' := [zU, zU]) rfl rfl ?_
    exact h3
theorem t_X12_readTag_78 {E : zEv} {D : Nat} {post : Int32 → zM → Prop} {px : String → zM → Prop} {M : zM}   {s0 : Int32} (h : (s0 = 0 ∨ s0 = 1) ∧ post s0 M) : w_X12_readTag_78 E D post px s0 M := by
  show Z E jX12_readTag (D + 1) 0 (zQi post px) 78 0 [zU, zU] [.int s0] M
  obtain ⟨g2, h1⟩ := h
  exact z_iret dX12_readTag_78 rfl (zbool g2) (by decide) h1
def w_X12_readAtom_152 (E : zEv) (D : Nat) (post : Int32 → zM → Prop) (px : String → zM → Prop)  (y1 : Int32) (M : zM) : Prop := Z E jX12_readAtom (D + 1) 0 (zQi post px) 152 0 [.ref 0, .int y1] [] M
def w_X12_readAtom_159 (E : zEv) (D : Nat) (post : Int32 → zM → Prop) (px : String → zM → Prop)   (M : zM) : Prop := Z E jX12_readAtom (D + 1) 0 (zQi post px) 159 0 [zU, zU] [] M
def w_X12_readAtom_173 (E : zEv) (D : Nat) (post : Int32 → zM → Prop) (px : String → zM → Prop)  (s0 : Int32) (M : zM) : Prop := Z E jX12_readAtom (D + 1) 0 (zQi post px) 173 0 [zU, zU] [.int s0, .ref 0] M
theorem e_X12_readAtom {E : zEv} {D : Nat} {post : Int32 → zM → Prop} {px : String → zM → Prop} {M : zM}   (h : zCi E jX12_sign D 0 [.ref 0, .int (40 : Int32)] M (fun r3 M1 => ((r3 = 0 → zCi E jX12_passes D 0 [.ref 0, .ref (271 + 22)] M1 (fun r9 M7 => ((r9 = 0 → zCi E jX12_readTag D 0 [.ref 0] M7 (fun r15 M13 => ((r15 = 0 → zCi E jX12_readSum D 0 [.ref 0] M13 (fun r21 M19 => ((¬ r21 = 0 → zCi E jX12_sign D 0 [.ref 0, .int (60 : Int32)] M19 (fun r27 M25 => ((¬ r27 = 0 → w_X12_readAtom_152 E D post px r27 M25) ∧ (r27 = 0 → zCi E jX12_sign D 0 [.ref 0, .int (62 : Int32)] M25 (fun r33 M31 => ((r33 = 0 → w_X12_readAtom_159 E D post px  M31) ∧ (¬ r33 = 0 → w_X12_readAtom_152 E D post px r27 M31))) px))) px) ∧ (r21 = 0 → post (0 : Int32) M19))) px) ∧ (¬ r15 = 0 → post (1 : Int32) M13))) px) ∧ (¬ r9 = 0 → ((¬ (M7.1 0 13) = (6 : Int32) → ∀ M40 : zM, M40 = zup M7 0 13 ((M7.1 0 13) + (1 : Int32)) → zCi E jX12_readAtom D 0 [.ref 0] M40 (fun r44 M42 => ((¬ r44 = 0 → ∀ M48 : zM, M48 = zup M42 0 13 ((M42.1 0 13) - (1 : Int32)) → zCv E jX12_emits D 0 [.ref 0, .int (15 : Int32), .int (0 : Int32)] M48 (fun M50 => post (1 : Int32) M50) px) ∧ (r44 = 0 → post (0 : Int32) M42))) px) ∧ ((M7.1 0 13) = (6 : Int32) → post (0 : Int32) M7))))) px) ∧ (¬ r3 = 0 → ((¬ (M1.1 0 13) = (6 : Int32) → ∀ M55 : zM, M55 = zup M1 0 13 ((M1.1 0 13) + (1 : Int32)) → zCi E jX12_readCond D 0 [.ref 0] M55 (fun r59 M57 => ((¬ r59 = 0 → ∀ M63 : zM, M63 = zup M57 0 13 ((M57.1 0 13) - (1 : Int32)) → zCi E jX12_sign D 0 [.ref 0, .int (41 : Int32)] M63 (fun r67 M65 => (r67 = 0 ∨ r67 = 1) ∧ post r67 M65) px) ∧ (r59 = 0 → post (0 : Int32) M57))) px) ∧ ((M1.1 0 13) = (6 : Int32) → post (0 : Int32) M1))))) px) : zCi E jX12_readAtom (D + 1) 0 [.ref 0] M post px := by
  refine z_meth (by decide) (Nat.le_of_ble_eq_true rfl) ?_
  show Z E jX12_readAtom (D + 1) 0 (zQi post px) 0 0 [.ref 0, zU] [] M
  refine z_aload_n dX12_readAtom_0 rfl ?_
  refine z_bipush (v := (40 : Int32)) dX12_readAtom_1 rfl ?_
  refine z_callVi (As := [.int (40 : Int32)]) (st := []) dX12_readAtom_3 zi_X12_225 rfl rfl zs_0 rfl rfl (Nat.le_of_ble_eq_true rfl) (by decide) (fun _ _ hx => hx) h ?_
  intro r3 M1 h2
  refine z_if_eq (tgt := 56) dX12_readAtom_6 (by decide) (fun g4 => ?_) (fun g4 => ?_)
  · have h5 := h2.1 g4
    refine z_aload_n dX12_readAtom_56 rfl ?_
    refine z_ldcS (i := 70) dX12_readAtom_57 rfl ?_
    refine z_callVi (As := [.ref (271 + 22)]) (st := []) dX12_readAtom_59 zi_X12_144 rfl rfl zs_0 rfl rfl (Nat.le_of_ble_eq_true rfl) (by decide) (fun _ _ hx => hx) h5 ?_
    intro r9 M7 h8
    refine z_if_eq (tgt := 114) dX12_readAtom_62 (by decide) (fun g10 => ?_) (fun g10 => ?_)
    · have h11 := h8.1 g10
      refine z_aload_n dX12_readAtom_114 rfl ?_
      refine z_callVi (As := []) (st := []) dX12_readAtom_115 zi_X12_246 rfl rfl zs_0 rfl rfl (Nat.le_of_ble_eq_true rfl) (by decide) (fun _ _ hx => hx) h11 ?_
      intro r15 M13 h14
      refine z_if_eq (tgt := 123) dX12_readAtom_118 (by decide) (fun g16 => ?_) (fun g16 => ?_)
      · have h17 := h14.1 g16
        refine z_aload_n dX12_readAtom_123 rfl ?_
        refine z_callVi (As := []) (st := []) dX12_readAtom_124 zi_X12_249 rfl rfl zs_0 rfl rfl (Nat.le_of_ble_eq_true rfl) (by decide) (fun _ _ hx => hx) h17 ?_
        intro r21 M19 h20
        refine z_if_ne (tgt := 132) dX12_readAtom_127 (by decide) (fun g22 => ?_) (fun g22 => ?_)
        · have h23 := h20.1 g22
          refine z_aload_n dX12_readAtom_132 rfl ?_
          refine z_bipush (v := (60 : Int32)) dX12_readAtom_133 rfl ?_
          refine z_callVi (As := [.int (60 : Int32)]) (st := []) dX12_readAtom_135 zi_X12_225 rfl rfl zs_0 rfl rfl (Nat.le_of_ble_eq_true rfl) (by decide) (fun _ _ hx => hx) h23 ?_
          intro r27 M25 h26
          refine z_istore_n dX12_readAtom_138 (by decide) (ls' := [.ref 0, .int r27]) rfl ?_
          refine z_iload_n dX12_readAtom_139 rfl ?_
          refine z_if_ne (tgt := 152) dX12_readAtom_140 (by decide) (fun g28 => ?_) (fun g28 => ?_)
          · have h29 := h26.1 g28
            exact h29
          · have h30 := h26.2 g28
            refine z_aload_n dX12_readAtom_143 rfl ?_
            refine z_bipush (v := (62 : Int32)) dX12_readAtom_144 rfl ?_
            refine z_callVi (As := [.int (62 : Int32)]) (st := []) dX12_readAtom_146 zi_X12_225 rfl rfl zs_0 rfl rfl (Nat.le_of_ble_eq_true rfl) (by decide) (fun _ _ hx => hx) h30 ?_
            intro r33 M31 h32
            refine z_if_eq (tgt := 159) dX12_readAtom_149 (by decide) (fun g34 => ?_) (fun g34 => ?_)
            · have h35 := h32.1 g34
              refine z_weak [false, false] (ls' := [zU, zU]) rfl rfl ?_
              exact h35
            · have h36 := h32.2 g34
              exact h36
        · have h24 := h20.2 g22
          refine z_iconst (v := (0 : Int32)) dX12_readAtom_130 rfl ?_
          exact z_iret dX12_readAtom_131 rfl (by decide) (by decide) h24
      · have h18 := h14.2 g16
        refine z_iconst (v := (1 : Int32)) dX12_readAtom_121 rfl ?_
        exact z_iret dX12_readAtom_122 rfl (by decide) (by decide) h18
    · have h12 := h8.2 g10
      refine z_aload_n dX12_readAtom_65 rfl ?_
      refine z_getI dX12_readAtom_66 zg_X12_235 zs_0 rfl ?_
      refine z_bipush (v := (6 : Int32)) dX12_readAtom_69 rfl ?_
      refine z_icmp_ne (tgt := 76) dX12_readAtom_71 (by decide) (fun g37 => ?_) (fun g37 => ?_)
      · have h38 := h12.1 g37
        refine z_aload_n dX12_readAtom_76 rfl ?_
        refine z_dup dX12_readAtom_77 rfl ?_
        refine z_getI dX12_readAtom_78 zg_X12_235 zs_0 rfl ?_
        refine z_iconst (v := (1 : Int32)) dX12_readAtom_81 rfl ?_
        refine z_iadd dX12_readAtom_82 ?_
        refine z_putI dX12_readAtom_83 zp_X12_235 zs_0 rfl rfl rfl ?_
        generalize hhM40 : zup M7 0 13 ((M7.1 0 13) + (1 : Int32)) = M40
        have h41 := h38 M40 hhM40.symm
        refine z_aload_n dX12_readAtom_86 rfl ?_
        refine z_callVi (As := []) (st := []) dX12_readAtom_87 zi_X12_243 rfl rfl zs_0 rfl rfl (Nat.le_of_ble_eq_true rfl) (by decide) (fun _ _ hx => hx) h41 ?_
        intro r44 M42 h43
        refine z_if_ne (tgt := 95) dX12_readAtom_90 (by decide) (fun g45 => ?_) (fun g45 => ?_)
        · have h46 := h43.1 g45
          refine z_aload_n dX12_readAtom_95 rfl ?_
          refine z_dup dX12_readAtom_96 rfl ?_
          refine z_getI dX12_readAtom_97 zg_X12_235 zs_0 rfl ?_
          refine z_iconst (v := (1 : Int32)) dX12_readAtom_100 rfl ?_
          refine z_isub dX12_readAtom_101 ?_
          refine z_putI dX12_readAtom_102 zp_X12_235 zs_0 rfl rfl rfl ?_
          generalize hhM48 : zup M42 0 13 ((M42.1 0 13) - (1 : Int32)) = M48
          have h49 := h46 M48 hhM48.symm
          refine z_aload_n dX12_readAtom_105 rfl ?_
          refine z_bipush (v := (15 : Int32)) dX12_readAtom_106 rfl ?_
          refine z_iconst (v := (0 : Int32)) dX12_readAtom_108 rfl ?_
          refine z_callVv (As := [.int (15 : Int32), .int (0 : Int32)]) (st := []) dX12_readAtom_109 zi_X12_218 rfl rfl zs_0 rfl rfl (Nat.le_of_ble_eq_true rfl) (by decide) (fun _ _ hx => hx) h49 ?_
          intro M50 h51
          refine z_iconst (v := (1 : Int32)) dX12_readAtom_112 rfl ?_
          exact z_iret dX12_readAtom_113 rfl (by decide) (by decide) h51
        · have h47 := h43.2 g45
          refine z_iconst (v := (0 : Int32)) dX12_readAtom_93 rfl ?_
          exact z_iret dX12_readAtom_94 rfl (by decide) (by decide) h47
      · have h39 := h12.2 g37
        refine z_iconst (v := (0 : Int32)) dX12_readAtom_74 rfl ?_
        exact z_iret dX12_readAtom_75 rfl (by decide) (by decide) h39
  · have h6 := h2.2 g4
    refine z_aload_n dX12_readAtom_9 rfl ?_
    refine z_getI dX12_readAtom_10 zg_X12_235 zs_0 rfl ?_
    refine z_bipush (v := (6 : Int32)) dX12_readAtom_13 rfl ?_
    refine z_icmp_ne (tgt := 20) dX12_readAtom_15 (by decide) (fun g52 => ?_) (fun g52 => ?_)
    · have h53 := h6.1 g52
      refine z_aload_n dX12_readAtom_20 rfl ?_
      refine z_dup dX12_readAtom_21 rfl ?_
      refine z_getI dX12_readAtom_22 zg_X12_235 zs_0 rfl ?_
      refine z_iconst (v := (1 : Int32)) dX12_readAtom_25 rfl ?_
      refine z_iadd dX12_readAtom_26 ?_
      refine z_putI dX12_readAtom_27 zp_X12_235 zs_0 rfl rfl rfl ?_
      generalize hhM55 : zup M1 0 13 ((M1.1 0 13) + (1 : Int32)) = M55
      have h56 := h53 M55 hhM55.symm
      refine z_aload_n dX12_readAtom_30 rfl ?_
      refine z_callVi (As := []) (st := []) dX12_readAtom_31 zi_X12_238 rfl rfl zs_0 rfl rfl (Nat.le_of_ble_eq_true rfl) (by decide) (fun _ _ hx => hx) h56 ?_
      intro r59 M57 h58
      refine z_if_ne (tgt := 39) dX12_readAtom_34 (by decide) (fun g60 => ?_) (fun g60 => ?_)
      · have h61 := h58.1 g60
        refine z_aload_n dX12_readAtom_39 rfl ?_
        refine z_dup dX12_readAtom_40 rfl ?_
        refine z_getI dX12_readAtom_41 zg_X12_235 zs_0 rfl ?_
        refine z_iconst (v := (1 : Int32)) dX12_readAtom_44 rfl ?_
        refine z_isub dX12_readAtom_45 ?_
        refine z_putI dX12_readAtom_46 zp_X12_235 zs_0 rfl rfl rfl ?_
        generalize hhM63 : zup M57 0 13 ((M57.1 0 13) - (1 : Int32)) = M63
        have h64 := h61 M63 hhM63.symm
        refine z_aload_n dX12_readAtom_49 rfl ?_
        refine z_bipush (v := (41 : Int32)) dX12_readAtom_50 rfl ?_
        refine z_callVi (As := [.int (41 : Int32)]) (st := []) dX12_readAtom_52 zi_X12_225 rfl rfl zs_0 rfl rfl (Nat.le_of_ble_eq_true rfl) (by decide) (fun _ _ hx => hx) h64 ?_
        intro r67 M65 h66
        obtain ⟨g69, h68⟩ := h66
        exact z_iret dX12_readAtom_55 rfl (zbool g69) (by decide) h68
      · have h62 := h58.2 g60
        refine z_iconst (v := (0 : Int32)) dX12_readAtom_37 rfl ?_
        exact z_iret dX12_readAtom_38 rfl (by decide) (by decide) h62
    · have h54 := h6.2 g52
      refine z_iconst (v := (0 : Int32)) dX12_readAtom_18 rfl ?_
      exact z_iret dX12_readAtom_19 rfl (by decide) (by decide) h54
theorem t_X12_readAtom_152 {E : zEv} {D : Nat} {post : Int32 → zM → Prop} {px : String → zM → Prop} {M : zM}   {y1 : Int32} (h : zCi E jX12_readSum D 0 [.ref 0] M (fun r3 M1 => ((¬ r3 = 0 → ((y1 = 0 → w_X12_readAtom_173 E D post px (14 : Int32) M1) ∧ (¬ y1 = 0 → w_X12_readAtom_173 E D post px (13 : Int32) M1))) ∧ (r3 = 0 → w_X12_readAtom_159 E D post px  M1))) px) : w_X12_readAtom_152 E D post px y1 M := by
  show Z E jX12_readAtom (D + 1) 0 (zQi post px) 152 0 [.ref 0, .int y1] [] M
  refine z_aload_n dX12_readAtom_152 rfl ?_
  refine z_callVi (As := []) (st := []) dX12_readAtom_153 zi_X12_249 rfl rfl zs_0 rfl rfl (Nat.le_of_ble_eq_true rfl) (by decide) (fun _ _ hx => hx) h ?_
  intro r3 M1 h2
  refine z_if_ne (tgt := 161) dX12_readAtom_156 (by decide) (fun g4 => ?_) (fun g4 => ?_)
  · have h5 := h2.1 g4
    refine z_aload_n dX12_readAtom_161 rfl ?_
    refine z_iload_n dX12_readAtom_162 rfl ?_
    refine z_if_eq (tgt := 171) dX12_readAtom_163 (by decide) (fun g7 => ?_) (fun g7 => ?_)
    · have h8 := h5.1 g7
      refine z_bipush (v := (14 : Int32)) dX12_readAtom_171 rfl ?_
      refine z_weak [false, false] (ls' := [zU, zU]) rfl rfl ?_
      exact h8
    · have h9 := h5.2 g7
      refine z_bipush (v := (13 : Int32)) dX12_readAtom_166 rfl ?_
      refine z_goto (tgt := 173) dX12_readAtom_168 (by decide) ?_
      refine z_weak [false, false] (ls' := [zU, zU]) rfl rfl ?_
      exact h9
  · have h6 := h2.2 g4
    refine z_weak [false, false] (ls' := [zU, zU]) rfl rfl ?_
    exact h6
theorem t_X12_readAtom_159 {E : zEv} {D : Nat} {post : Int32 → zM → Prop} {px : String → zM → Prop} {M : zM}    (h : post (0 : Int32) M) : w_X12_readAtom_159 E D post px  M := by
  show Z E jX12_readAtom (D + 1) 0 (zQi post px) 159 0 [zU, zU] [] M
  refine z_iconst (v := (0 : Int32)) dX12_readAtom_159 rfl ?_
  exact z_iret dX12_readAtom_160 rfl (by decide) (by decide) h
theorem t_X12_readAtom_173 {E : zEv} {D : Nat} {post : Int32 → zM → Prop} {px : String → zM → Prop} {M : zM}   {s0 : Int32} (h : zCv E jX12_emits D 0 [.ref 0, .int s0, .int (0 : Int32)] M (fun M1 => post (1 : Int32) M1) px) : w_X12_readAtom_173 E D post px s0 M := by
  show Z E jX12_readAtom (D + 1) 0 (zQi post px) 173 0 [zU, zU] [.int s0, .ref 0] M
  refine z_iconst (v := (0 : Int32)) dX12_readAtom_173 rfl ?_
  refine z_callVv (As := [.int s0, .int (0 : Int32)]) (st := []) dX12_readAtom_174 zi_X12_218 rfl rfl zs_0 rfl rfl (Nat.le_of_ble_eq_true rfl) (by decide) (fun _ _ hx => hx) h ?_
  intro M1 h2
  refine z_iconst (v := (1 : Int32)) dX12_readAtom_177 rfl ?_
  exact z_iret dX12_readAtom_178 rfl (by decide) (by decide) h2
def w_X12_readAllOf_9 (E : zEv) (D : Nat) (post : Int32 → zM → Prop) (px : String → zM → Prop)   (M : zM) : Prop := Z E jX12_readAllOf (D + 1) 0 (zQi post px) 9 0 [.ref 0] [] M
theorem e_X12_readAllOf {E : zEv} {D : Nat} {post : Int32 → zM → Prop} {px : String → zM → Prop} {M : zM}   (h : zCi E jX12_readAtom D 0 [.ref 0] M (fun r3 M1 => ((¬ r3 = 0 → w_X12_readAllOf_9 E D post px  M1) ∧ (r3 = 0 → post (0 : Int32) M1))) px) : zCi E jX12_readAllOf (D + 1) 0 [.ref 0] M post px := by
  refine z_meth (by decide) (Nat.le_of_ble_eq_true rfl) ?_
  show Z E jX12_readAllOf (D + 1) 0 (zQi post px) 0 0 [.ref 0] [] M
  refine z_aload_n dX12_readAllOf_0 rfl ?_
  refine z_callVi (As := []) (st := []) dX12_readAllOf_1 zi_X12_243 rfl rfl zs_0 rfl rfl (Nat.le_of_ble_eq_true rfl) (by decide) (fun _ _ hx => hx) h ?_
  intro r3 M1 h2
  refine z_if_ne (tgt := 9) dX12_readAllOf_4 (by decide) (fun g4 => ?_) (fun g4 => ?_)
  · have h5 := h2.1 g4
    exact h5
  · have h6 := h2.2 g4
    refine z_iconst (v := (0 : Int32)) dX12_readAllOf_7 rfl ?_
    exact z_iret dX12_readAllOf_8 rfl (by decide) (by decide) h6
theorem t_X12_readAllOf_9 {E : zEv} {D : Nat} {post : Int32 → zM → Prop} {px : String → zM → Prop} {M : zM}    (h : zCi E jX12_passes D 0 [.ref 0, .ref (271 + 27)] M (fun r3 M1 => ((r3 = 0 → post (1 : Int32) M1) ∧ (¬ r3 = 0 → zCi E jX12_readAtom D 0 [.ref 0] M1 (fun r9 M7 => ((¬ r9 = 0 → zCv E jX12_emits D 0 [.ref 0, .int (16 : Int32), .int (0 : Int32)] M7 (fun M13 => w_X12_readAllOf_9 E D post px  M13) px) ∧ (r9 = 0 → post (0 : Int32) M7))) px))) px) : w_X12_readAllOf_9 E D post px  M := by
  show Z E jX12_readAllOf (D + 1) 0 (zQi post px) 9 0 [.ref 0] [] M
  refine z_aload_n dX12_readAllOf_9 rfl ?_
  refine z_ldcS (i := 75) dX12_readAllOf_10 rfl ?_
  refine z_callVi (As := [.ref (271 + 27)]) (st := []) dX12_readAllOf_12 zi_X12_144 rfl rfl zs_0 rfl rfl (Nat.le_of_ble_eq_true rfl) (by decide) (fun _ _ hx => hx) h ?_
  intro r3 M1 h2
  refine z_if_eq (tgt := 37) dX12_readAllOf_15 (by decide) (fun g4 => ?_) (fun g4 => ?_)
  · have h5 := h2.1 g4
    refine z_iconst (v := (1 : Int32)) dX12_readAllOf_37 rfl ?_
    exact z_iret dX12_readAllOf_38 rfl (by decide) (by decide) h5
  · have h6 := h2.2 g4
    refine z_aload_n dX12_readAllOf_18 rfl ?_
    refine z_callVi (As := []) (st := []) dX12_readAllOf_19 zi_X12_243 rfl rfl zs_0 rfl rfl (Nat.le_of_ble_eq_true rfl) (by decide) (fun _ _ hx => hx) h6 ?_
    intro r9 M7 h8
    refine z_if_ne (tgt := 27) dX12_readAllOf_22 (by decide) (fun g10 => ?_) (fun g10 => ?_)
    · have h11 := h8.1 g10
      refine z_aload_n dX12_readAllOf_27 rfl ?_
      refine z_bipush (v := (16 : Int32)) dX12_readAllOf_28 rfl ?_
      refine z_iconst (v := (0 : Int32)) dX12_readAllOf_30 rfl ?_
      refine z_callVv (As := [.int (16 : Int32), .int (0 : Int32)]) (st := []) dX12_readAllOf_31 zi_X12_218 rfl rfl zs_0 rfl rfl (Nat.le_of_ble_eq_true rfl) (by decide) (fun _ _ hx => hx) h11 ?_
      intro M13 h14
      refine z_goto (tgt := 9) dX12_readAllOf_34 (by decide) ?_
      exact h14
    · have h12 := h8.2 g10
      refine z_iconst (v := (0 : Int32)) dX12_readAllOf_25 rfl ?_
      exact z_iret dX12_readAllOf_26 rfl (by decide) (by decide) h12
def w_X12_readCond_9 (E : zEv) (D : Nat) (post : Int32 → zM → Prop) (px : String → zM → Prop)   (M : zM) : Prop := Z E jX12_readCond (D + 1) 0 (zQi post px) 9 0 [.ref 0] [] M
theorem e_X12_readCond {E : zEv} {D : Nat} {post : Int32 → zM → Prop} {px : String → zM → Prop} {M : zM}   (h : zCi E jX12_readAllOf D 0 [.ref 0] M (fun r3 M1 => ((¬ r3 = 0 → w_X12_readCond_9 E D post px  M1) ∧ (r3 = 0 → post (0 : Int32) M1))) px) : zCi E jX12_readCond (D + 1) 0 [.ref 0] M post px := by
  refine z_meth (by decide) (Nat.le_of_ble_eq_true rfl) ?_
  show Z E jX12_readCond (D + 1) 0 (zQi post px) 0 0 [.ref 0] [] M
  refine z_aload_n dX12_readCond_0 rfl ?_
  refine z_callVi (As := []) (st := []) dX12_readCond_1 zi_X12_254 rfl rfl zs_0 rfl rfl (Nat.le_of_ble_eq_true rfl) (by decide) (fun _ _ hx => hx) h ?_
  intro r3 M1 h2
  refine z_if_ne (tgt := 9) dX12_readCond_4 (by decide) (fun g4 => ?_) (fun g4 => ?_)
  · have h5 := h2.1 g4
    exact h5
  · have h6 := h2.2 g4
    refine z_iconst (v := (0 : Int32)) dX12_readCond_7 rfl ?_
    exact z_iret dX12_readCond_8 rfl (by decide) (by decide) h6
theorem t_X12_readCond_9 {E : zEv} {D : Nat} {post : Int32 → zM → Prop} {px : String → zM → Prop} {M : zM}    (h : zCi E jX12_passes D 0 [.ref 0, .ref (271 + 28)] M (fun r3 M1 => ((r3 = 0 → post (1 : Int32) M1) ∧ (¬ r3 = 0 → zCi E jX12_readAllOf D 0 [.ref 0] M1 (fun r9 M7 => ((¬ r9 = 0 → zCv E jX12_emits D 0 [.ref 0, .int (17 : Int32), .int (0 : Int32)] M7 (fun M13 => w_X12_readCond_9 E D post px  M13) px) ∧ (r9 = 0 → post (0 : Int32) M7))) px))) px) : w_X12_readCond_9 E D post px  M := by
  show Z E jX12_readCond (D + 1) 0 (zQi post px) 9 0 [.ref 0] [] M
  refine z_aload_n dX12_readCond_9 rfl ?_
  refine z_ldcwS (i := 76) dX12_readCond_10 rfl ?_
  refine z_callVi (As := [.ref (271 + 28)]) (st := []) dX12_readCond_13 zi_X12_144 rfl rfl zs_0 rfl rfl (Nat.le_of_ble_eq_true rfl) (by decide) (fun _ _ hx => hx) h ?_
  intro r3 M1 h2
  refine z_if_eq (tgt := 38) dX12_readCond_16 (by decide) (fun g4 => ?_) (fun g4 => ?_)
  · have h5 := h2.1 g4
    refine z_iconst (v := (1 : Int32)) dX12_readCond_38 rfl ?_
    exact z_iret dX12_readCond_39 rfl (by decide) (by decide) h5
  · have h6 := h2.2 g4
    refine z_aload_n dX12_readCond_19 rfl ?_
    refine z_callVi (As := []) (st := []) dX12_readCond_20 zi_X12_254 rfl rfl zs_0 rfl rfl (Nat.le_of_ble_eq_true rfl) (by decide) (fun _ _ hx => hx) h6 ?_
    intro r9 M7 h8
    refine z_if_ne (tgt := 28) dX12_readCond_23 (by decide) (fun g10 => ?_) (fun g10 => ?_)
    · have h11 := h8.1 g10
      refine z_aload_n dX12_readCond_28 rfl ?_
      refine z_bipush (v := (17 : Int32)) dX12_readCond_29 rfl ?_
      refine z_iconst (v := (0 : Int32)) dX12_readCond_31 rfl ?_
      refine z_callVv (As := [.int (17 : Int32), .int (0 : Int32)]) (st := []) dX12_readCond_32 zi_X12_218 rfl rfl zs_0 rfl rfl (Nat.le_of_ble_eq_true rfl) (by decide) (fun _ _ hx => hx) h11 ?_
      intro M13 h14
      refine z_goto (tgt := 9) dX12_readCond_35 (by decide) ?_
      exact h14
    · have h12 := h8.2 g10
      refine z_iconst (v := (0 : Int32)) dX12_readCond_26 rfl ?_
      exact z_iret dX12_readCond_27 rfl (by decide) (by decide) h12
def w_X12_readLawLine_56 (E : zEv) (D : Nat) (post : Int32 → zM → Prop) (px : String → zM → Prop)  (y2 : Int32) (s0 : Int32) (s1 : Int32) (M : zM) : Prop := Z E jX12_readLawLine (D + 1) 0 (zQi post px) 56 0 [.ref 0, zU, .int y2] [.int s0, .int s1, .ref 1] M
def w_X12_readLawLine_132 (E : zEv) (D : Nat) (post : Int32 → zM → Prop) (px : String → zM → Prop)  (y2 : Int32) (M : zM) : Prop := Z E jX12_readLawLine (D + 1) 0 (zQi post px) 132 0 [.ref 0, zU, .int y2] [] M
theorem e_X12_readLawLine {E : zEv} {D : Nat} {post : Int32 → zM → Prop} {px : String → zM → Prop} {M : zM} {x1 : Int32}  (h : zCi E jX12_isWord D 0 [.ref 0, .ref (271 + 18)] M (fun r3 M1 => ((r3 = 0 → zCi E jX12_isWord D 0 [.ref 0, .ref (271 + 19)] M1 (fun r9 M7 => ((r9 = 0 → zCi E jX12_isWord D 0 [.ref 0, .ref (271 + 20)] M7 (fun r15 M13 => ((r15 = 0 → w_X12_readLawLine_56 E D post px ((1222 : Int32) + ((4 : Int32) * x1)) (-1 : Int32) ((1222 : Int32) + ((4 : Int32) * x1)) M13) ∧ (¬ r15 = 0 → w_X12_readLawLine_56 E D post px ((1222 : Int32) + ((4 : Int32) * x1)) (2 : Int32) ((1222 : Int32) + ((4 : Int32) * x1)) M13))) px) ∧ (¬ r9 = 0 → w_X12_readLawLine_56 E D post px ((1222 : Int32) + ((4 : Int32) * x1)) (1 : Int32) ((1222 : Int32) + ((4 : Int32) * x1)) M7))) px) ∧ (¬ r3 = 0 → w_X12_readLawLine_56 E D post px ((1222 : Int32) + ((4 : Int32) * x1)) (0 : Int32) ((1222 : Int32) + ((4 : Int32) * x1)) M1))) px) : zCi E jX12_readLawLine (D + 1) 0 [.ref 0, .int x1] M post px := by
  refine z_meth (by decide) (Nat.le_of_ble_eq_true rfl) ?_
  show Z E jX12_readLawLine (D + 1) 0 (zQi post px) 0 0 [.ref 0, .int x1, zU] [] M
  refine z_sipush (v := (1222 : Int32)) dX12_readLawLine_0 rfl ?_
  refine z_iconst (v := (4 : Int32)) dX12_readLawLine_3 rfl ?_
  refine z_iload_n dX12_readLawLine_4 rfl ?_
  refine z_imul dX12_readLawLine_5 ?_
  refine z_iadd dX12_readLawLine_6 ?_
  refine z_istore_n dX12_readLawLine_7 (by decide) (ls' := [.ref 0, .int x1, .int ((1222 : Int32) + ((4 : Int32) * x1))]) rfl ?_
  refine z_aload_n dX12_readLawLine_8 rfl ?_
  refine z_getR dX12_readLawLine_9 zg_X12_13 zs_0 rfl ?_
  refine z_iload_n dX12_readLawLine_12 rfl ?_
  refine z_aload_n dX12_readLawLine_13 rfl ?_
  refine z_ldcwS (i := 66) dX12_readLawLine_14 rfl ?_
  refine z_callVi (As := [.ref (271 + 18)]) (st := [.int ((1222 : Int32) + ((4 : Int32) * x1)), .ref 1]) dX12_readLawLine_17 zi_X12_137 rfl rfl zs_0 rfl rfl (Nat.le_of_ble_eq_true rfl) (by decide) (fun _ _ hx => hx) h ?_
  intro r3 M1 h2
  refine z_if_eq (tgt := 27) dX12_readLawLine_20 (by decide) (fun g4 => ?_) (fun g4 => ?_)
  · have h5 := h2.1 g4
    refine z_aload_n dX12_readLawLine_27 rfl ?_
    refine z_ldcwS (i := 67) dX12_readLawLine_28 rfl ?_
    refine z_callVi (As := [.ref (271 + 19)]) (st := [.int ((1222 : Int32) + ((4 : Int32) * x1)), .ref 1]) dX12_readLawLine_31 zi_X12_137 rfl rfl zs_0 rfl rfl (Nat.le_of_ble_eq_true rfl) (by decide) (fun _ _ hx => hx) h5 ?_
    intro r9 M7 h8
    refine z_if_eq (tgt := 41) dX12_readLawLine_34 (by decide) (fun g10 => ?_) (fun g10 => ?_)
    · have h11 := h8.1 g10
      refine z_aload_n dX12_readLawLine_41 rfl ?_
      refine z_ldcwS (i := 68) dX12_readLawLine_42 rfl ?_
      refine z_callVi (As := [.ref (271 + 20)]) (st := [.int ((1222 : Int32) + ((4 : Int32) * x1)), .ref 1]) dX12_readLawLine_45 zi_X12_137 rfl rfl zs_0 rfl rfl (Nat.le_of_ble_eq_true rfl) (by decide) (fun _ _ hx => hx) h11 ?_
      intro r15 M13 h14
      refine z_if_eq (tgt := 55) dX12_readLawLine_48 (by decide) (fun g16 => ?_) (fun g16 => ?_)
      · have h17 := h14.1 g16
        refine z_iconst (v := (-1 : Int32)) dX12_readLawLine_55 rfl ?_
        refine z_weak [true, false, true] (ls' := [.ref 0, zU, .int ((1222 : Int32) + ((4 : Int32) * x1))]) rfl rfl ?_
        exact h17
      · have h18 := h14.2 g16
        refine z_iconst (v := (2 : Int32)) dX12_readLawLine_51 rfl ?_
        refine z_goto (tgt := 56) dX12_readLawLine_52 (by decide) ?_
        refine z_weak [true, false, true] (ls' := [.ref 0, zU, .int ((1222 : Int32) + ((4 : Int32) * x1))]) rfl rfl ?_
        exact h18
    · have h12 := h8.2 g10
      refine z_iconst (v := (1 : Int32)) dX12_readLawLine_37 rfl ?_
      refine z_goto (tgt := 56) dX12_readLawLine_38 (by decide) ?_
      refine z_weak [true, false, true] (ls' := [.ref 0, zU, .int ((1222 : Int32) + ((4 : Int32) * x1))]) rfl rfl ?_
      exact h12
  · have h6 := h2.2 g4
    refine z_iconst (v := (0 : Int32)) dX12_readLawLine_23 rfl ?_
    refine z_goto (tgt := 56) dX12_readLawLine_24 (by decide) ?_
    refine z_weak [true, false, true] (ls' := [.ref 0, zU, .int ((1222 : Int32) + ((4 : Int32) * x1))]) rfl rfl ?_
    exact h6
theorem t_X12_readLawLine_56 {E : zEv} {D : Nat} {post : Int32 → zM → Prop} {px : String → zM → Prop} {M : zM}   {y2 : Int32} {s0 : Int32} {s1 : Int32} (h : vp_in s1 2070 ∧ ∀ M3 : zM, M3 = zup M 1 (s1).toNatClampNeg s0 → vp_in y2 2070 ∧ ((0 ≤ (M3.1 1 (y2).toNatClampNeg) → zCi E jX12_number D 0 [.ref 0, .int (0 : Int32), .int (99 : Int32)] M3 (fun r12 M10 => vp_in (y2 + (1 : Int32)) 2070 ∧ ∀ M15 : zM, M15 = zup M10 1 ((y2 + (1 : Int32))).toNatClampNeg r12 → vp_in (y2 + (1 : Int32)) 2070 ∧ ((0 ≤ (M15.1 1 ((y2 + (1 : Int32))).toNatClampNeg) → vp_in (y2 + (2 : Int32)) 2070 ∧ ∀ M24 : zM, M24 = zup M15 1 ((y2 + (2 : Int32))).toNatClampNeg (M15.1 0 16) → ∀ M26 : zM, M26 = zup M24 0 13 (0 : Int32) → zCi E jX12_passes D 0 [.ref 0, .ref (271 + 21)] M26 (fun r30 M28 => ((r30 = 0 → w_X12_readLawLine_132 E D post px y2 M28) ∧ (¬ r30 = 0 → zCi E jX12_readCond D 0 [.ref 0] M28 (fun r36 M34 => ((¬ r36 = 0 → w_X12_readLawLine_132 E D post px y2 M34) ∧ (r36 = 0 → post (0 : Int32) M34))) px))) px) ∧ (¬ 0 ≤ (M15.1 1 ((y2 + (1 : Int32))).toNatClampNeg) → post (0 : Int32) M15))) px) ∧ (¬ 0 ≤ (M3.1 1 (y2).toNatClampNeg) → post (0 : Int32) M3))) : w_X12_readLawLine_56 E D post px y2 s0 s1 M := by
  show Z E jX12_readLawLine (D + 1) 0 (zQi post px) 56 0 [.ref 0, zU, .int y2] [.int s0, .int s1, .ref 1] M
  obtain ⟨g2, h1⟩ := h
  refine z_iast dX12_readLawLine_56 zs_1 g2 ?_
  generalize hhM3 : zup M 1 (s1).toNatClampNeg s0 = M3
  have h4 := h1 M3 hhM3.symm
  refine z_aload_n dX12_readLawLine_57 rfl ?_
  refine z_getR dX12_readLawLine_58 zg_X12_13 zs_0 rfl ?_
  refine z_iload_n dX12_readLawLine_61 rfl ?_
  obtain ⟨g6, h5⟩ := h4
  refine z_iald dX12_readLawLine_62 zs_1 g6 ?_
  refine z_if_ge (tgt := 68) dX12_readLawLine_63 (by decide) (fun g7 => ?_) (fun g7 => ?_)
  · have h8 := h5.1 g7
    refine z_aload_n dX12_readLawLine_68 rfl ?_
    refine z_getR dX12_readLawLine_69 zg_X12_13 zs_0 rfl ?_
    refine z_iload_n dX12_readLawLine_72 rfl ?_
    refine z_iconst (v := (1 : Int32)) dX12_readLawLine_73 rfl ?_
    refine z_iadd dX12_readLawLine_74 ?_
    refine z_aload_n dX12_readLawLine_75 rfl ?_
    refine z_iconst (v := (0 : Int32)) dX12_readLawLine_76 rfl ?_
    refine z_bipush (v := (99 : Int32)) dX12_readLawLine_77 rfl ?_
    refine z_callVi (As := [.int (0 : Int32), .int (99 : Int32)]) (st := [.int (y2 + (1 : Int32)), .ref 1]) dX12_readLawLine_79 zi_X12_141 rfl rfl zs_0 rfl rfl (Nat.le_of_ble_eq_true rfl) (by decide) (fun _ _ hx => hx) h8 ?_
    intro r12 M10 h11
    obtain ⟨g14, h13⟩ := h11
    refine z_iast dX12_readLawLine_82 zs_1 g14 ?_
    generalize hhM15 : zup M10 1 ((y2 + (1 : Int32))).toNatClampNeg r12 = M15
    have h16 := h13 M15 hhM15.symm
    refine z_aload_n dX12_readLawLine_83 rfl ?_
    refine z_getR dX12_readLawLine_84 zg_X12_13 zs_0 rfl ?_
    refine z_iload_n dX12_readLawLine_87 rfl ?_
    refine z_iconst (v := (1 : Int32)) dX12_readLawLine_88 rfl ?_
    refine z_iadd dX12_readLawLine_89 ?_
    obtain ⟨g18, h17⟩ := h16
    refine z_iald dX12_readLawLine_90 zs_1 g18 ?_
    refine z_if_ge (tgt := 96) dX12_readLawLine_91 (by decide) (fun g19 => ?_) (fun g19 => ?_)
    · have h20 := h17.1 g19
      refine z_aload_n dX12_readLawLine_96 rfl ?_
      refine z_getR dX12_readLawLine_97 zg_X12_13 zs_0 rfl ?_
      refine z_iload_n dX12_readLawLine_100 rfl ?_
      refine z_iconst (v := (2 : Int32)) dX12_readLawLine_101 rfl ?_
      refine z_iadd dX12_readLawLine_102 ?_
      refine z_aload_n dX12_readLawLine_103 rfl ?_
      refine z_getI dX12_readLawLine_104 zg_X12_210 zs_0 rfl ?_
      obtain ⟨g23, h22⟩ := h20
      refine z_iast dX12_readLawLine_107 zs_1 g23 ?_
      generalize hhM24 : zup M15 1 ((y2 + (2 : Int32))).toNatClampNeg (M15.1 0 16) = M24
      have h25 := h22 M24 hhM24.symm
      refine z_aload_n dX12_readLawLine_108 rfl ?_
      refine z_iconst (v := (0 : Int32)) dX12_readLawLine_109 rfl ?_
      refine z_putI dX12_readLawLine_110 zp_X12_235 zs_0 rfl rfl rfl ?_
      generalize hhM26 : zup M24 0 13 (0 : Int32) = M26
      have h27 := h25 M26 hhM26.symm
      refine z_aload_n dX12_readLawLine_113 rfl ?_
      refine z_ldcwS (i := 69) dX12_readLawLine_114 rfl ?_
      refine z_callVi (As := [.ref (271 + 21)]) (st := []) dX12_readLawLine_117 zi_X12_144 rfl rfl zs_0 rfl rfl (Nat.le_of_ble_eq_true rfl) (by decide) (fun _ _ hx => hx) h27 ?_
      intro r30 M28 h29
      refine z_if_eq (tgt := 132) dX12_readLawLine_120 (by decide) (fun g31 => ?_) (fun g31 => ?_)
      · have h32 := h29.1 g31
        exact h32
      · have h33 := h29.2 g31
        refine z_aload_n dX12_readLawLine_123 rfl ?_
        refine z_callVi (As := []) (st := []) dX12_readLawLine_124 zi_X12_238 rfl rfl zs_0 rfl rfl (Nat.le_of_ble_eq_true rfl) (by decide) (fun _ _ hx => hx) h33 ?_
        intro r36 M34 h35
        refine z_if_ne (tgt := 132) dX12_readLawLine_127 (by decide) (fun g37 => ?_) (fun g37 => ?_)
        · have h38 := h35.1 g37
          exact h38
        · have h39 := h35.2 g37
          refine z_iconst (v := (0 : Int32)) dX12_readLawLine_130 rfl ?_
          exact z_iret dX12_readLawLine_131 rfl (by decide) (by decide) h39
    · have h21 := h17.2 g19
      refine z_iconst (v := (0 : Int32)) dX12_readLawLine_94 rfl ?_
      exact z_iret dX12_readLawLine_95 rfl (by decide) (by decide) h21
  · have h9 := h5.2 g7
    refine z_iconst (v := (0 : Int32)) dX12_readLawLine_66 rfl ?_
    exact z_iret dX12_readLawLine_67 rfl (by decide) (by decide) h9
theorem t_X12_readLawLine_132 {E : zEv} {D : Nat} {post : Int32 → zM → Prop} {px : String → zM → Prop} {M : zM}   {y2 : Int32} (h : vp_in (y2 + (3 : Int32)) 2070 ∧ ∀ M3 : zM, M3 = zup M 1 ((y2 + (3 : Int32))).toNatClampNeg (M.1 0 16) → post (1 : Int32) M3) : w_X12_readLawLine_132 E D post px y2 M := by
  show Z E jX12_readLawLine (D + 1) 0 (zQi post px) 132 0 [.ref 0, zU, .int y2] [] M
  refine z_aload_n dX12_readLawLine_132 rfl ?_
  refine z_getR dX12_readLawLine_133 zg_X12_13 zs_0 rfl ?_
  refine z_iload_n dX12_readLawLine_136 rfl ?_
  refine z_iconst (v := (3 : Int32)) dX12_readLawLine_137 rfl ?_
  refine z_iadd dX12_readLawLine_138 ?_
  refine z_aload_n dX12_readLawLine_139 rfl ?_
  refine z_getI dX12_readLawLine_140 zg_X12_210 zs_0 rfl ?_
  obtain ⟨g2, h1⟩ := h
  refine z_iast dX12_readLawLine_143 zs_1 g2 ?_
  generalize hhM3 : zup M 1 ((y2 + (3 : Int32))).toNatClampNeg (M.1 0 16) = M3
  have h4 := h1 M3 hhM3.symm
  refine z_iconst (v := (1 : Int32)) dX12_readLawLine_144 rfl ?_
  exact z_iret dX12_readLawLine_145 rfl (by decide) (by decide) h4
def w_X12_readLine_16 (E : zEv) (D : Nat) (post : Int32 → zM → Prop) (px : String → zM → Prop)  (y1 : Int32) (y2 : Int32) (s0 : Int32) (s1 : Int32) (M : zM) : Prop := Z E jX12_readLine (D + 1) 0 (zQi post px) 16 0 [.ref 0, .int y1, .int y2] [.int s0, .int s1] M
def w_X12_readLine_45 (E : zEv) (D : Nat) (post : Int32 → zM → Prop) (px : String → zM → Prop)   (M : zM) : Prop := Z E jX12_readLine (D + 1) 0 (zQi post px) 45 0 [zU, zU, zU] [] M
def w_X12_readLine_41 (E : zEv) (D : Nat) (post : Int32 → zM → Prop) (px : String → zM → Prop)   (M : zM) : Prop := Z E jX12_readLine (D + 1) 0 (zQi post px) 41 0 [zU, zU, zU] [] M
def w_X12_readLine_46 (E : zEv) (D : Nat) (post : Int32 → zM → Prop) (px : String → zM → Prop)  (s0 : Int32) (M : zM) : Prop := Z E jX12_readLine (D + 1) 0 (zQi post px) 46 0 [zU, zU, zU] [.int s0] M
theorem e_X12_readLine {E : zEv} {D : Nat} {post : Int32 → zM → Prop} {px : String → zM → Prop} {M : zM} {x1 : Int32} {x2 : Int32}  (h : zCv E jX12_letters D 0 [.ref 0] M (fun M1 => ((x1 = 0 → w_X12_readLine_16 E D post px x1 x2 (12 : Int32) x2 M1) ∧ (¬ x1 = 0 → w_X12_readLine_16 E D post px x1 x2 (14 : Int32) x2 M1))) px) : zCi E jX12_readLine (D + 1) 0 [.ref 0, .int x1, .int x2] M post px := by
  refine z_meth (by decide) (Nat.le_of_ble_eq_true rfl) ?_
  show Z E jX12_readLine (D + 1) 0 (zQi post px) 0 0 [.ref 0, .int x1, .int x2] [] M
  refine z_aload_n dX12_readLine_0 rfl ?_
  refine z_callVv (As := []) (st := []) dX12_readLine_1 zi_X12_134 rfl rfl zs_0 rfl rfl (Nat.le_of_ble_eq_true rfl) (by decide) (fun _ _ hx => hx) h ?_
  intro M1 h2
  refine z_iload_n dX12_readLine_4 rfl ?_
  refine z_iload_n dX12_readLine_5 rfl ?_
  refine z_if_eq (tgt := 14) dX12_readLine_6 (by decide) (fun g3 => ?_) (fun g3 => ?_)
  · have h4 := h2.1 g3
    refine z_bipush (v := (12 : Int32)) dX12_readLine_14 rfl ?_
    exact h4
  · have h5 := h2.2 g3
    refine z_bipush (v := (14 : Int32)) dX12_readLine_9 rfl ?_
    refine z_goto (tgt := 16) dX12_readLine_11 (by decide) ?_
    exact h5
theorem t_X12_readLine_16 {E : zEv} {D : Nat} {post : Int32 → zM → Prop} {px : String → zM → Prop} {M : zM}   {y1 : Int32} {y2 : Int32} {s0 : Int32} {s1 : Int32} (h : ((s0 ≤ s1 → w_X12_readLine_45 E D post px  M) ∧ (¬ s0 ≤ s1 → ((y1 = 0 → zCi E jX12_readLawLine D 0 [.ref 0, .int y2] M (fun r9 M7 => ((r9 = 0 → w_X12_readLine_45 E D post px  M7) ∧ (¬ r9 = 0 → w_X12_readLine_41 E D post px  M7))) px) ∧ (¬ y1 = 0 → zCi E jX12_readCourtLine D 0 [.ref 0] M (fun r15 M13 => ((r15 = 0 → w_X12_readLine_45 E D post px  M13) ∧ (¬ r15 = 0 → w_X12_readLine_41 E D post px  M13))) px))))) : w_X12_readLine_16 E D post px y1 y2 s0 s1 M := by
  show Z E jX12_readLine (D + 1) 0 (zQi post px) 16 0 [.ref 0, .int y1, .int y2] [.int s0, .int s1] M
  refine z_icmp_ge (tgt := 45) dX12_readLine_16 (by decide) (fun g1 => ?_) (fun g1 => ?_)
  · have h2 := h.1 g1
    refine z_weak [false, false, false] (ls' := [zU, zU, zU]) rfl rfl ?_
    exact h2
  · have h3 := h.2 g1
    refine z_iload_n dX12_readLine_19 rfl ?_
    refine z_if_eq (tgt := 33) dX12_readLine_20 (by decide) (fun g4 => ?_) (fun g4 => ?_)
    · have h5 := h3.1 g4
      refine z_aload_n dX12_readLine_33 rfl ?_
      refine z_iload_n dX12_readLine_34 rfl ?_
      refine z_callVi (As := [.int y2]) (st := []) dX12_readLine_35 zi_X12_268 rfl rfl zs_0 rfl rfl (Nat.le_of_ble_eq_true rfl) (by decide) (fun _ _ hx => hx) h5 ?_
      intro r9 M7 h8
      refine z_if_eq (tgt := 45) dX12_readLine_38 (by decide) (fun g10 => ?_) (fun g10 => ?_)
      · have h11 := h8.1 g10
        refine z_weak [false, false, false] (ls' := [zU, zU, zU]) rfl rfl ?_
        exact h11
      · have h12 := h8.2 g10
        refine z_weak [false, false, false] (ls' := [zU, zU, zU]) rfl rfl ?_
        exact h12
    · have h6 := h3.2 g4
      refine z_aload_n dX12_readLine_23 rfl ?_
      refine z_callVi (As := []) (st := []) dX12_readLine_24 zi_X12_265 rfl rfl zs_0 rfl rfl (Nat.le_of_ble_eq_true rfl) (by decide) (fun _ _ hx => hx) h6 ?_
      intro r15 M13 h14
      refine z_if_eq (tgt := 45) dX12_readLine_27 (by decide) (fun g16 => ?_) (fun g16 => ?_)
      · have h17 := h14.1 g16
        refine z_weak [false, false, false] (ls' := [zU, zU, zU]) rfl rfl ?_
        exact h17
      · have h18 := h14.2 g16
        refine z_goto (tgt := 41) dX12_readLine_30 (by decide) ?_
        refine z_weak [false, false, false] (ls' := [zU, zU, zU]) rfl rfl ?_
        exact h18
theorem t_X12_readLine_45 {E : zEv} {D : Nat} {post : Int32 → zM → Prop} {px : String → zM → Prop} {M : zM}    (h : w_X12_readLine_46 E D post px (0 : Int32) M) : w_X12_readLine_45 E D post px  M := by
  show Z E jX12_readLine (D + 1) 0 (zQi post px) 45 0 [zU, zU, zU] [] M
  refine z_iconst (v := (0 : Int32)) dX12_readLine_45 rfl ?_
  exact h
theorem t_X12_readLine_41 {E : zEv} {D : Nat} {post : Int32 → zM → Prop} {px : String → zM → Prop} {M : zM}    (h : w_X12_readLine_46 E D post px (1 : Int32) M) : w_X12_readLine_41 E D post px  M := by
  show Z E jX12_readLine (D + 1) 0 (zQi post px) 41 0 [zU, zU, zU] [] M
  refine z_iconst (v := (1 : Int32)) dX12_readLine_41 rfl ?_
  refine z_goto (tgt := 46) dX12_readLine_42 (by decide) ?_
  exact h
theorem t_X12_readLine_46 {E : zEv} {D : Nat} {post : Int32 → zM → Prop} {px : String → zM → Prop} {M : zM}   {s0 : Int32} (h : (s0 = 0 ∨ s0 = 1) ∧ post s0 M) : w_X12_readLine_46 E D post px s0 M := by
  show Z E jX12_readLine (D + 1) 0 (zQi post px) 46 0 [zU, zU, zU] [.int s0] M
  obtain ⟨g2, h1⟩ := h
  exact z_iret dX12_readLine_46 rfl (zbool g2) (by decide) h1
def w_X12_readAll_28 (E : zEv) (D : Nat) (post : Int32 → zM → Prop) (px : String → zM → Prop)  (y1 : Int32) (y2 : Int32) (M : zM) : Prop := Z E jX12_readAll (D + 1) 0 (zQi post px) 28 0 [.ref 0, .int y1, .int y2] [] M
theorem e_X12_readAll {E : zEv} {D : Nat} {post : Int32 → zM → Prop} {px : String → zM → Prop} {M : zM} {x1 : Int32}  (h : zCv E jX12_uses D 0 [.ref 0] M (fun M1 => ∀ M3 : zM, M3 = zup M1 0 16 (0 : Int32) → zCv E jX12_blanks D 0 [.ref 0] M3 (fun M5 => ((¬ (M5.1 0 10) = (M5.1 0 11) → w_X12_readAll_28 E D post px x1 (0 : Int32) M5) ∧ ((M5.1 0 10) = (M5.1 0 11) → post (0 : Int32) M5))) px) px) : zCi E jX12_readAll (D + 1) 0 [.ref 0, .int x1] M post px := by
  refine z_meth (by decide) (Nat.le_of_ble_eq_true rfl) ?_
  show Z E jX12_readAll (D + 1) 0 (zQi post px) 0 0 [.ref 0, .int x1, zU] [] M
  refine z_aload_n dX12_readAll_0 rfl ?_
  refine z_callVv (As := []) (st := []) dX12_readAll_1 zi_X12_271 rfl rfl zs_0 rfl rfl (Nat.le_of_ble_eq_true rfl) (by decide) (fun _ _ hx => hx) h ?_
  intro M1 h2
  refine z_aload_n dX12_readAll_4 rfl ?_
  refine z_iconst (v := (0 : Int32)) dX12_readAll_5 rfl ?_
  refine z_putI dX12_readAll_6 zp_X12_210 zs_0 rfl rfl rfl ?_
  generalize hhM3 : zup M1 0 16 (0 : Int32) = M3
  have h4 := h2 M3 hhM3.symm
  refine z_aload_n dX12_readAll_9 rfl ?_
  refine z_callVv (As := []) (st := []) dX12_readAll_10 zi_X12_122 rfl rfl zs_0 rfl rfl (Nat.le_of_ble_eq_true rfl) (by decide) (fun _ _ hx => hx) h4 ?_
  intro M5 h6
  refine z_aload_n dX12_readAll_13 rfl ?_
  refine z_getI dX12_readAll_14 zg_X12_109 zs_0 rfl ?_
  refine z_aload_n dX12_readAll_17 rfl ?_
  refine z_getI dX12_readAll_18 zg_X12_112 zs_0 rfl ?_
  refine z_icmp_ne (tgt := 26) dX12_readAll_21 (by decide) (fun g7 => ?_) (fun g7 => ?_)
  · have h8 := h6.1 g7
    refine z_iconst (v := (0 : Int32)) dX12_readAll_26 rfl ?_
    refine z_istore_n dX12_readAll_27 (by decide) (ls' := [.ref 0, .int x1, .int (0 : Int32)]) rfl ?_
    exact h8
  · have h9 := h6.2 g7
    refine z_iconst (v := (0 : Int32)) dX12_readAll_24 rfl ?_
    exact z_iret dX12_readAll_25 rfl rfl (by decide) h9
theorem t_X12_readAll_28 {E : zEv} {D : Nat} {post : Int32 → zM → Prop} {px : String → zM → Prop} {M : zM}   {y1 : Int32} {y2 : Int32} (h : zCi E jX12_readLine D 0 [.ref 0, .int y1, .int y2] M (fun r3 M1 => ((¬ r3 = 0 → zCv E jX12_blanks D 0 [.ref 0] M1 (fun M7 => ((¬ (M7.1 0 10) = (M7.1 0 11) → zCi E jX12_isAt D 0 [.ref 0, .int (59 : Int32), .int (59 : Int32)] M7 (fun r14 M12 => ((¬ r14 = 0 → ∀ M18 : zM, M18 = zup M12 0 10 ((M12.1 0 10) + (1 : Int32)) → w_X12_readAll_28 E D post px y1 (y2 + (1 : Int32)) M18) ∧ (r14 = 0 → post (-1 : Int32) M12))) px) ∧ ((M7.1 0 10) = (M7.1 0 11) → post (y2 + (1 : Int32)) M7))) px) ∧ (r3 = 0 → post (-1 : Int32) M1))) px) : w_X12_readAll_28 E D post px y1 y2 M := by
  show Z E jX12_readAll (D + 1) 0 (zQi post px) 28 0 [.ref 0, .int y1, .int y2] [] M
  refine z_aload_n dX12_readAll_28 rfl ?_
  refine z_iload_n dX12_readAll_29 rfl ?_
  refine z_iload_n dX12_readAll_30 rfl ?_
  refine z_callVi (As := [.int y1, .int y2]) (st := []) dX12_readAll_31 zi_X12_274 rfl rfl zs_0 rfl rfl (Nat.le_of_ble_eq_true rfl) (by decide) (fun _ _ hx => hx) h ?_
  intro r3 M1 h2
  refine z_if_ne (tgt := 39) dX12_readAll_34 (by decide) (fun g4 => ?_) (fun g4 => ?_)
  · have h5 := h2.1 g4
    refine z_aload_n dX12_readAll_39 rfl ?_
    refine z_callVv (As := []) (st := []) dX12_readAll_40 zi_X12_122 rfl rfl zs_0 rfl rfl (Nat.le_of_ble_eq_true rfl) (by decide) (fun _ _ hx => hx) h5 ?_
    intro M7 h8
    refine z_aload_n dX12_readAll_43 rfl ?_
    refine z_getI dX12_readAll_44 zg_X12_109 zs_0 rfl ?_
    refine z_aload_n dX12_readAll_47 rfl ?_
    refine z_getI dX12_readAll_48 zg_X12_112 zs_0 rfl ?_
    refine z_icmp_ne (tgt := 58) dX12_readAll_51 (by decide) (fun g9 => ?_) (fun g9 => ?_)
    · have h10 := h8.1 g9
      refine z_aload_n dX12_readAll_58 rfl ?_
      refine z_bipush (v := (59 : Int32)) dX12_readAll_59 rfl ?_
      refine z_bipush (v := (59 : Int32)) dX12_readAll_61 rfl ?_
      refine z_callVi (As := [.int (59 : Int32), .int (59 : Int32)]) (st := []) dX12_readAll_63 zi_X12_115 rfl rfl zs_0 rfl rfl (Nat.le_of_ble_eq_true rfl) (by decide) (fun _ _ hx => hx) h10 ?_
      intro r14 M12 h13
      refine z_if_ne (tgt := 71) dX12_readAll_66 (by decide) (fun g15 => ?_) (fun g15 => ?_)
      · have h16 := h13.1 g15
        refine z_aload_n dX12_readAll_71 rfl ?_
        refine z_dup dX12_readAll_72 rfl ?_
        refine z_getI dX12_readAll_73 zg_X12_109 zs_0 rfl ?_
        refine z_iconst (v := (1 : Int32)) dX12_readAll_76 rfl ?_
        refine z_iadd dX12_readAll_77 ?_
        refine z_putI dX12_readAll_78 zp_X12_109 zs_0 rfl rfl rfl ?_
        generalize hhM18 : zup M12 0 10 ((M12.1 0 10) + (1 : Int32)) = M18
        have h19 := h16 M18 hhM18.symm
        refine z_iinc dX12_readAll_81 rfl (by decide) (ls' := [.ref 0, .int y1, .int (y2 + (1 : Int32))]) rfl ?_
        refine z_goto (tgt := 28) dX12_readAll_84 (by decide) ?_
        exact h19
      · have h17 := h13.2 g15
        refine z_iconst (v := (-1 : Int32)) dX12_readAll_69 rfl ?_
        exact z_iret dX12_readAll_70 rfl rfl (by decide) h17
    · have h11 := h8.2 g9
      refine z_iload_n dX12_readAll_54 rfl ?_
      refine z_iconst (v := (1 : Int32)) dX12_readAll_55 rfl ?_
      refine z_iadd dX12_readAll_56 ?_
      exact z_iret dX12_readAll_57 rfl rfl (by decide) h11
  · have h6 := h2.2 g4
    refine z_iconst (v := (-1 : Int32)) dX12_readAll_37 rfl ?_
    exact z_iret dX12_readAll_38 rfl rfl (by decide) h6
def w_X12_court_2 (E : zEv) (D : Nat) (post : Int32 → zM → Prop) (px : String → zM → Prop)  (y1 : Int32) (M : zM) : Prop := Z E jX12_court (D + 1) 0 (zQi post px) 2 0 [.ref 0, .int y1, zU] [] M
def w_X12_court_46 (E : zEv) (D : Nat) (post : Int32 → zM → Prop) (px : String → zM → Prop)  (y1 : Int32) (s0 : Int32) (M : zM) : Prop := Z E jX12_court (D + 1) 0 (zQi post px) 46 0 [.ref 0, .int y1, zU] [.int s0, .ref 0] M
def w_X12_court_59 (E : zEv) (D : Nat) (post : Int32 → zM → Prop) (px : String → zM → Prop)  (s0 : Int32) (M : zM) : Prop := Z E jX12_court (D + 1) 0 (zQi post px) 59 0 [.ref 0, zU, zU] [.int s0, .ref 0] M
def w_X12_court_90 (E : zEv) (D : Nat) (post : Int32 → zM → Prop) (px : String → zM → Prop)   (M : zM) : Prop := Z E jX12_court (D + 1) 0 (zQi post px) 90 0 [.ref 0, zU, zU] [] M
def w_X12_court_83 (E : zEv) (D : Nat) (post : Int32 → zM → Prop) (px : String → zM → Prop)  (s0 : Int32) (M : zM) : Prop := Z E jX12_court (D + 1) 0 (zQi post px) 83 0 [.ref 0, zU, zU] [.int s0, .ref 0] M
def w_X12_court_92 (E : zEv) (D : Nat) (post : Int32 → zM → Prop) (px : String → zM → Prop)  (y2 : Int32) (M : zM) : Prop := Z E jX12_court (D + 1) 0 (zQi post px) 92 0 [.ref 0, zU, .int y2] [] M
theorem e_X12_court {E : zEv} {D : Nat} {post : Int32 → zM → Prop} {px : String → zM → Prop} {M : zM}   (h : w_X12_court_2 E D post px (0 : Int32) M) : zCi E jX12_court (D + 1) 0 [.ref 0] M post px := by
  refine z_meth (by decide) (Nat.le_of_ble_eq_true rfl) ?_
  show Z E jX12_court (D + 1) 0 (zQi post px) 0 0 [.ref 0, zU, zU] [] M
  refine z_iconst (v := (0 : Int32)) dX12_court_0 rfl ?_
  refine z_istore_n dX12_court_1 (by decide) (ls' := [.ref 0, .int (0 : Int32), zU]) rfl ?_
  exact h
theorem t_X12_court_2 {E : zEv} {D : Nat} {post : Int32 → zM → Prop} {px : String → zM → Prop} {M : zM}   {y1 : Int32} (h : (((1221 : Int32) ≤ y1 → zCi E jX12_readAll D 0 [.ref 0, .int (1 : Int32)] M (fun r6 M4 => ((0 ≤ r6 → w_X12_court_46 E D post px r6 (-1 : Int32) M4) ∧ (¬ 0 ≤ r6 → w_X12_court_46 E D post px r6 (M4.1 0 12) M4))) px) ∧ (¬ (1221 : Int32) ≤ y1 → vp_in y1 2070 ∧ vp_in y1 1221 ∧ ∀ M14 : zM, M14 = zup M 3 (y1).toNatClampNeg (M.1 1 (y1).toNatClampNeg) → w_X12_court_2 E D post px (y1 + (1 : Int32)) M14))) : w_X12_court_2 E D post px y1 M := by
  show Z E jX12_court (D + 1) 0 (zQi post px) 2 0 [.ref 0, .int y1, zU] [] M
  refine z_iload_n dX12_court_2 rfl ?_
  refine z_sipush (v := (1221 : Int32)) dX12_court_3 rfl ?_
  refine z_icmp_ge (tgt := 27) dX12_court_6 (by decide) (fun g1 => ?_) (fun g1 => ?_)
  · have h2 := h.1 g1
    refine z_aload_n dX12_court_27 rfl ?_
    refine z_iconst (v := (1 : Int32)) dX12_court_28 rfl ?_
    refine z_callVi (As := [.int (1 : Int32)]) (st := []) dX12_court_29 zi_X12_278 rfl rfl zs_0 rfl rfl (Nat.le_of_ble_eq_true rfl) (by decide) (fun _ _ hx => hx) h2 ?_
    intro r6 M4 h5
    refine z_istore_n dX12_court_32 (by decide) (ls' := [.ref 0, .int r6, zU]) rfl ?_
    refine z_aload_n dX12_court_33 rfl ?_
    refine z_iload_n dX12_court_34 rfl ?_
    refine z_if_ge (tgt := 45) dX12_court_35 (by decide) (fun g7 => ?_) (fun g7 => ?_)
    · have h8 := h5.1 g7
      refine z_iconst (v := (-1 : Int32)) dX12_court_45 rfl ?_
      exact h8
    · have h9 := h5.2 g7
      refine z_aload_n dX12_court_38 rfl ?_
      refine z_getI dX12_court_39 zg_X12_119 zs_0 rfl ?_
      refine z_goto (tgt := 46) dX12_court_42 (by decide) ?_
      exact h9
  · have h3 := h.2 g1
    refine z_aload_n dX12_court_9 rfl ?_
    refine z_getR dX12_court_10 zg_X12_20 zs_0 rfl ?_
    refine z_iload_n dX12_court_13 rfl ?_
    refine z_aload_n dX12_court_14 rfl ?_
    refine z_getR dX12_court_15 zg_X12_13 zs_0 rfl ?_
    refine z_iload_n dX12_court_18 rfl ?_
    obtain ⟨g11, h10⟩ := h3
    refine z_iald dX12_court_19 zs_1 g11 ?_
    obtain ⟨g13, h12⟩ := h10
    refine z_iast dX12_court_20 zs_3 g13 ?_
    generalize hhM14 : zup M 3 (y1).toNatClampNeg (M.1 1 (y1).toNatClampNeg) = M14
    have h15 := h12 M14 hhM14.symm
    refine z_iinc dX12_court_21 rfl (by decide) (ls' := [.ref 0, .int (y1 + (1 : Int32)), zU]) rfl ?_
    refine z_goto (tgt := 2) dX12_court_24 (by decide) ?_
    exact h15
theorem t_X12_court_46 {E : zEv} {D : Nat} {post : Int32 → zM → Prop} {px : String → zM → Prop} {M : zM}   {y1 : Int32} {s0 : Int32} (h : ∀ M1 : zM, M1 = zup M 0 14 s0 → ((0 ≤ y1 → w_X12_court_59 E D post px (0 : Int32) M1) ∧ (¬ 0 ≤ y1 → w_X12_court_59 E D post px (1 : Int32) M1))) : w_X12_court_46 E D post px y1 s0 M := by
  show Z E jX12_court (D + 1) 0 (zQi post px) 46 0 [.ref 0, .int y1, zU] [.int s0, .ref 0] M
  refine z_putI dX12_court_46 zp_X12_33 zs_0 rfl rfl rfl ?_
  generalize hhM1 : zup M 0 14 s0 = M1
  have h2 := h M1 hhM1.symm
  refine z_aload_n dX12_court_49 rfl ?_
  refine z_iload_n dX12_court_50 rfl ?_
  refine z_if_ge (tgt := 58) dX12_court_51 (by decide) (fun g3 => ?_) (fun g3 => ?_)
  · have h4 := h2.1 g3
    refine z_iconst (v := (0 : Int32)) dX12_court_58 rfl ?_
    refine z_weak [true, false, false] (ls' := [.ref 0, zU, zU]) rfl rfl ?_
    exact h4
  · have h5 := h2.2 g3
    refine z_iconst (v := (1 : Int32)) dX12_court_54 rfl ?_
    refine z_goto (tgt := 59) dX12_court_55 (by decide) ?_
    refine z_weak [true, false, false] (ls' := [.ref 0, zU, zU]) rfl rfl ?_
    exact h5
theorem t_X12_court_59 {E : zEv} {D : Nat} {post : Int32 → zM → Prop} {px : String → zM → Prop} {M : zM}   {s0 : Int32} (h : zCi E jX12_throwsIf D 0 [.ref 0, .int s0, .int (1 : Int32)] M (fun r3 M1 => ((¬ r3 = 0 → w_X12_court_90 E D post px  M1) ∧ (r3 = 0 → ((¬ (M1.1 1 ((4 : Int32)).toNatClampNeg) = (12 : Int32) → w_X12_court_83 E D post px (0 : Int32) M1) ∧ ((M1.1 1 ((4 : Int32)).toNatClampNeg) = (12 : Int32) → w_X12_court_83 E D post px (1 : Int32) M1))))) px) : w_X12_court_59 E D post px s0 M := by
  show Z E jX12_court (D + 1) 0 (zQi post px) 59 0 [.ref 0, zU, zU] [.int s0, .ref 0] M
  refine z_iconst (v := (1 : Int32)) dX12_court_59 rfl ?_
  refine z_callVi (As := [.int s0, .int (1 : Int32)]) (st := []) dX12_court_60 zi_X12_282 rfl rfl zs_0 rfl rfl (Nat.le_of_ble_eq_true rfl) (by decide) (fun _ _ hx => hx) h ?_
  intro r3 M1 h2
  refine z_if_ne (tgt := 90) dX12_court_63 (by decide) (fun g4 => ?_) (fun g4 => ?_)
  · have h5 := h2.1 g4
    exact h5
  · have h6 := h2.2 g4
    refine z_aload_n dX12_court_66 rfl ?_
    refine z_aload_n dX12_court_67 rfl ?_
    refine z_getR dX12_court_68 zg_X12_13 zs_0 rfl ?_
    refine z_iconst (v := (4 : Int32)) dX12_court_71 rfl ?_
    refine z_iald dX12_court_72 zs_1 (by unfold vp_in; decide) ?_
    refine z_bipush (v := (12 : Int32)) dX12_court_73 rfl ?_
    refine z_icmp_ne (tgt := 82) dX12_court_75 (by decide) (fun g7 => ?_) (fun g7 => ?_)
    · have h8 := h6.1 g7
      refine z_iconst (v := (0 : Int32)) dX12_court_82 rfl ?_
      exact h8
    · have h9 := h6.2 g7
      refine z_iconst (v := (1 : Int32)) dX12_court_78 rfl ?_
      refine z_goto (tgt := 83) dX12_court_79 (by decide) ?_
      exact h9
theorem t_X12_court_90 {E : zEv} {D : Nat} {post : Int32 → zM → Prop} {px : String → zM → Prop} {M : zM}    (h : w_X12_court_92 E D post px (0 : Int32) M) : w_X12_court_90 E D post px  M := by
  show Z E jX12_court (D + 1) 0 (zQi post px) 90 0 [.ref 0, zU, zU] [] M
  refine z_iconst (v := (0 : Int32)) dX12_court_90 rfl ?_
  refine z_istore_n dX12_court_91 (by decide) (ls' := [.ref 0, zU, .int (0 : Int32)]) rfl ?_
  exact h
theorem t_X12_court_83 {E : zEv} {D : Nat} {post : Int32 → zM → Prop} {px : String → zM → Prop} {M : zM}   {s0 : Int32} (h : zCi E jX12_throwsIf D 0 [.ref 0, .int s0, .int (2 : Int32)] M (fun r3 M1 => ((r3 = 0 → ∀ M7 : zM, M7 = zup M1 1 ((4 : Int32)).toNatClampNeg ((M1.1 1 ((4 : Int32)).toNatClampNeg) + (1 : Int32)) → ∀ M9 : zM, M9 = zup M7 0 7 (0 : Int32) → post (M9.1 1 ((4 : Int32)).toNatClampNeg) M9) ∧ (¬ r3 = 0 → w_X12_court_90 E D post px  M1))) px) : w_X12_court_83 E D post px s0 M := by
  show Z E jX12_court (D + 1) 0 (zQi post px) 83 0 [.ref 0, zU, zU] [.int s0, .ref 0] M
  refine z_iconst (v := (2 : Int32)) dX12_court_83 rfl ?_
  refine z_callVi (As := [.int s0, .int (2 : Int32)]) (st := []) dX12_court_84 zi_X12_282 rfl rfl zs_0 rfl rfl (Nat.le_of_ble_eq_true rfl) (by decide) (fun _ _ hx => hx) h ?_
  intro r3 M1 h2
  refine z_if_eq (tgt := 119) dX12_court_87 (by decide) (fun g4 => ?_) (fun g4 => ?_)
  · have h5 := h2.1 g4
    refine z_aload_n dX12_court_119 rfl ?_
    refine z_getR dX12_court_120 zg_X12_13 zs_0 rfl ?_
    refine z_iconst (v := (4 : Int32)) dX12_court_123 rfl ?_
    refine z_dup2 dX12_court_124 rfl rfl ?_
    refine z_iald dX12_court_125 zs_1 (by unfold vp_in; decide) ?_
    refine z_iconst (v := (1 : Int32)) dX12_court_126 rfl ?_
    refine z_iadd dX12_court_127 ?_
    refine z_iast dX12_court_128 zs_1 (by unfold vp_in; decide) ?_
    generalize hhM7 : zup M1 1 ((4 : Int32)).toNatClampNeg ((M1.1 1 ((4 : Int32)).toNatClampNeg) + (1 : Int32)) = M7
    have h8 := h5 M7 hhM7.symm
    refine z_aload_n dX12_court_129 rfl ?_
    refine z_iconst (v := (0 : Int32)) dX12_court_130 rfl ?_
    refine z_putI dX12_court_131 zp_X12_75 zs_0 rfl rfl rfl ?_
    generalize hhM9 : zup M7 0 7 (0 : Int32) = M9
    have h10 := h8 M9 hhM9.symm
    refine z_aload_n dX12_court_134 rfl ?_
    refine z_getR dX12_court_135 zg_X12_13 zs_0 rfl ?_
    refine z_iconst (v := (4 : Int32)) dX12_court_138 rfl ?_
    refine z_iald dX12_court_139 zs_1 (by unfold vp_in; decide) ?_
    exact z_iret dX12_court_140 rfl rfl (by decide) h10
  · have h6 := h2.2 g4
    exact h6
theorem t_X12_court_92 {E : zEv} {D : Nat} {post : Int32 → zM → Prop} {px : String → zM → Prop} {M : zM}   {y2 : Int32} (h : (((1221 : Int32) ≤ y2 → post (0 : Int32) M) ∧ (¬ (1221 : Int32) ≤ y2 → vp_in y2 1221 ∧ vp_in y2 2070 ∧ ∀ M8 : zM, M8 = zup M 1 (y2).toNatClampNeg (M.1 3 (y2).toNatClampNeg) → w_X12_court_92 E D post px (y2 + (1 : Int32)) M8))) : w_X12_court_92 E D post px y2 M := by
  show Z E jX12_court (D + 1) 0 (zQi post px) 92 0 [.ref 0, zU, .int y2] [] M
  refine z_iload_n dX12_court_92 rfl ?_
  refine z_sipush (v := (1221 : Int32)) dX12_court_93 rfl ?_
  refine z_icmp_ge (tgt := 117) dX12_court_96 (by decide) (fun g1 => ?_) (fun g1 => ?_)
  · have h2 := h.1 g1
    refine z_iconst (v := (0 : Int32)) dX12_court_117 rfl ?_
    exact z_iret dX12_court_118 rfl rfl (by decide) h2
  · have h3 := h.2 g1
    refine z_aload_n dX12_court_99 rfl ?_
    refine z_getR dX12_court_100 zg_X12_13 zs_0 rfl ?_
    refine z_iload_n dX12_court_103 rfl ?_
    refine z_aload_n dX12_court_104 rfl ?_
    refine z_getR dX12_court_105 zg_X12_20 zs_0 rfl ?_
    refine z_iload_n dX12_court_108 rfl ?_
    obtain ⟨g5, h4⟩ := h3
    refine z_iald dX12_court_109 zs_3 g5 ?_
    obtain ⟨g7, h6⟩ := h4
    refine z_iast dX12_court_110 zs_1 g7 ?_
    generalize hhM8 : zup M 1 (y2).toNatClampNeg (M.1 3 (y2).toNatClampNeg) = M8
    have h9 := h6 M8 hhM8.symm
    refine z_iinc dX12_court_111 rfl (by decide) (ls' := [.ref 0, zU, .int (y2 + (1 : Int32))]) rfl ?_
    refine z_goto (tgt := 92) dX12_court_114 (by decide) ?_
    exact h9
def w_X12_law_19 (E : zEv) (D : Nat) (post : Int32 → zM → Prop) (px : String → zM → Prop)  (y1 : Int32) (s0 : Int32) (M : zM) : Prop := Z E jX12_law (D + 1) 0 (zQi post px) 19 0 [.ref 0, .int y1, zU] [.int s0, .ref 0] M
def w_X12_law_32 (E : zEv) (D : Nat) (post : Int32 → zM → Prop) (px : String → zM → Prop)  (y1 : Int32) (s0 : Int32) (M : zM) : Prop := Z E jX12_law (D + 1) 0 (zQi post px) 32 0 [.ref 0, .int y1, zU] [.int s0, .ref 0] M
def w_X12_law_52 (E : zEv) (D : Nat) (post : Int32 → zM → Prop) (px : String → zM → Prop)  (y1 : Int32) (y2 : Int32) (M : zM) : Prop := Z E jX12_law (D + 1) 0 (zQi post px) 52 0 [.ref 0, .int y1, .int y2] [] M
theorem e_X12_law {E : zEv} {D : Nat} {post : Int32 → zM → Prop} {px : String → zM → Prop} {M : zM}   (h : zCi E jX12_readAll D 0 [.ref 0, .int (0 : Int32)] M (fun r3 M1 => ((0 ≤ r3 → w_X12_law_19 E D post px r3 (-1 : Int32) M1) ∧ (¬ 0 ≤ r3 → w_X12_law_19 E D post px r3 (M1.1 0 12) M1))) px) : zCi E jX12_law (D + 1) 0 [.ref 0] M post px := by
  refine z_meth (by decide) (Nat.le_of_ble_eq_true rfl) ?_
  show Z E jX12_law (D + 1) 0 (zQi post px) 0 0 [.ref 0, zU, zU] [] M
  refine z_aload_n dX12_law_0 rfl ?_
  refine z_iconst (v := (0 : Int32)) dX12_law_1 rfl ?_
  refine z_callVi (As := [.int (0 : Int32)]) (st := []) dX12_law_2 zi_X12_278 rfl rfl zs_0 rfl rfl (Nat.le_of_ble_eq_true rfl) (by decide) (fun _ _ hx => hx) h ?_
  intro r3 M1 h2
  refine z_istore_n dX12_law_5 (by decide) (ls' := [.ref 0, .int r3, zU]) rfl ?_
  refine z_aload_n dX12_law_6 rfl ?_
  refine z_iload_n dX12_law_7 rfl ?_
  refine z_if_ge (tgt := 18) dX12_law_8 (by decide) (fun g4 => ?_) (fun g4 => ?_)
  · have h5 := h2.1 g4
    refine z_iconst (v := (-1 : Int32)) dX12_law_18 rfl ?_
    exact h5
  · have h6 := h2.2 g4
    refine z_aload_n dX12_law_11 rfl ?_
    refine z_getI dX12_law_12 zg_X12_119 zs_0 rfl ?_
    refine z_goto (tgt := 19) dX12_law_15 (by decide) ?_
    exact h6
theorem t_X12_law_19 {E : zEv} {D : Nat} {post : Int32 → zM → Prop} {px : String → zM → Prop} {M : zM}   {y1 : Int32} {s0 : Int32} (h : ∀ M1 : zM, M1 = zup M 0 14 s0 → ((0 ≤ y1 → w_X12_law_32 E D post px y1 (0 : Int32) M1) ∧ (¬ 0 ≤ y1 → w_X12_law_32 E D post px y1 (1 : Int32) M1))) : w_X12_law_19 E D post px y1 s0 M := by
  show Z E jX12_law (D + 1) 0 (zQi post px) 19 0 [.ref 0, .int y1, zU] [.int s0, .ref 0] M
  refine z_putI dX12_law_19 zp_X12_33 zs_0 rfl rfl rfl ?_
  generalize hhM1 : zup M 0 14 s0 = M1
  have h2 := h M1 hhM1.symm
  refine z_aload_n dX12_law_22 rfl ?_
  refine z_iload_n dX12_law_23 rfl ?_
  refine z_if_ge (tgt := 31) dX12_law_24 (by decide) (fun g3 => ?_) (fun g3 => ?_)
  · have h4 := h2.1 g3
    refine z_iconst (v := (0 : Int32)) dX12_law_31 rfl ?_
    exact h4
  · have h5 := h2.2 g3
    refine z_iconst (v := (1 : Int32)) dX12_law_27 rfl ?_
    refine z_goto (tgt := 32) dX12_law_28 (by decide) ?_
    exact h5
theorem t_X12_law_32 {E : zEv} {D : Nat} {post : Int32 → zM → Prop} {px : String → zM → Prop} {M : zM}   {y1 : Int32} {s0 : Int32} (h : zCi E jX12_throwsIf D 0 [.ref 0, .int s0, .int (1 : Int32)] M (fun r3 M1 => ((r3 = 0 → ∀ M7 : zM, M7 = zup M1 1 ((1221 : Int32)).toNatClampNeg y1 → w_X12_law_52 E D post px y1 (0 : Int32) M7) ∧ (¬ r3 = 0 → post (0 : Int32) M1))) px) : w_X12_law_32 E D post px y1 s0 M := by
  show Z E jX12_law (D + 1) 0 (zQi post px) 32 0 [.ref 0, .int y1, zU] [.int s0, .ref 0] M
  refine z_iconst (v := (1 : Int32)) dX12_law_32 rfl ?_
  refine z_callVi (As := [.int s0, .int (1 : Int32)]) (st := []) dX12_law_33 zi_X12_282 rfl rfl zs_0 rfl rfl (Nat.le_of_ble_eq_true rfl) (by decide) (fun _ _ hx => hx) h ?_
  intro r3 M1 h2
  refine z_if_eq (tgt := 41) dX12_law_36 (by decide) (fun g4 => ?_) (fun g4 => ?_)
  · have h5 := h2.1 g4
    refine z_aload_n dX12_law_41 rfl ?_
    refine z_getR dX12_law_42 zg_X12_13 zs_0 rfl ?_
    refine z_sipush (v := (1221 : Int32)) dX12_law_45 rfl ?_
    refine z_iload_n dX12_law_48 rfl ?_
    refine z_iast dX12_law_49 zs_1 (by unfold vp_in; decide) ?_
    generalize hhM7 : zup M1 1 ((1221 : Int32)).toNatClampNeg y1 = M7
    have h8 := h5 M7 hhM7.symm
    refine z_iconst (v := (0 : Int32)) dX12_law_50 rfl ?_
    refine z_istore_n dX12_law_51 (by decide) (ls' := [.ref 0, .int y1, .int (0 : Int32)]) rfl ?_
    exact h8
  · have h6 := h2.2 g4
    refine z_iconst (v := (0 : Int32)) dX12_law_39 rfl ?_
    exact z_iret dX12_law_40 rfl rfl (by decide) h6
theorem t_X12_law_52 {E : zEv} {D : Nat} {post : Int32 → zM → Prop} {px : String → zM → Prop} {M : zM}   {y1 : Int32} {y2 : Int32} (h : (((849 : Int32) ≤ y2 → ∀ M4 : zM, M4 = zup M 1 ((5 : Int32)).toNatClampNeg (1 : Int32) → ∀ M6 : zM, M6 = zup M4 0 7 (0 : Int32) → post y1 M6) ∧ (¬ (849 : Int32) ≤ y2 → vp_in ((1221 : Int32) + y2) 2070 ∧ vp_in ((372 : Int32) + y2) 2070 ∧ ∀ M12 : zM, M12 = zup M 1 (((372 : Int32) + y2)).toNatClampNeg (M.1 1 (((1221 : Int32) + y2)).toNatClampNeg) → w_X12_law_52 E D post px y1 (y2 + (1 : Int32)) M12))) : w_X12_law_52 E D post px y1 y2 M := by
  show Z E jX12_law (D + 1) 0 (zQi post px) 52 0 [.ref 0, .int y1, .int y2] [] M
  refine z_iload_n dX12_law_52 rfl ?_
  refine z_sipush (v := (849 : Int32)) dX12_law_53 rfl ?_
  refine z_icmp_ge (tgt := 85) dX12_law_56 (by decide) (fun g1 => ?_) (fun g1 => ?_)
  · have h2 := h.1 g1
    refine z_aload_n dX12_law_85 rfl ?_
    refine z_getR dX12_law_86 zg_X12_13 zs_0 rfl ?_
    refine z_iconst (v := (5 : Int32)) dX12_law_89 rfl ?_
    refine z_iconst (v := (1 : Int32)) dX12_law_90 rfl ?_
    refine z_iast dX12_law_91 zs_1 (by unfold vp_in; decide) ?_
    generalize hhM4 : zup M 1 ((5 : Int32)).toNatClampNeg (1 : Int32) = M4
    have h5 := h2 M4 hhM4.symm
    refine z_aload_n dX12_law_92 rfl ?_
    refine z_iconst (v := (0 : Int32)) dX12_law_93 rfl ?_
    refine z_putI dX12_law_94 zp_X12_75 zs_0 rfl rfl rfl ?_
    generalize hhM6 : zup M4 0 7 (0 : Int32) = M6
    have h7 := h5 M6 hhM6.symm
    refine z_iload_n dX12_law_97 rfl ?_
    exact z_iret dX12_law_98 rfl rfl (by decide) h7
  · have h3 := h.2 g1
    refine z_aload_n dX12_law_59 rfl ?_
    refine z_getR dX12_law_60 zg_X12_13 zs_0 rfl ?_
    refine z_sipush (v := (372 : Int32)) dX12_law_63 rfl ?_
    refine z_iload_n dX12_law_66 rfl ?_
    refine z_iadd dX12_law_67 ?_
    refine z_aload_n dX12_law_68 rfl ?_
    refine z_getR dX12_law_69 zg_X12_13 zs_0 rfl ?_
    refine z_sipush (v := (1221 : Int32)) dX12_law_72 rfl ?_
    refine z_iload_n dX12_law_75 rfl ?_
    refine z_iadd dX12_law_76 ?_
    obtain ⟨g9, h8⟩ := h3
    refine z_iald dX12_law_77 zs_1 g9 ?_
    obtain ⟨g11, h10⟩ := h8
    refine z_iast dX12_law_78 zs_1 g11 ?_
    generalize hhM12 : zup M 1 (((372 : Int32) + y2)).toNatClampNeg (M.1 1 (((1221 : Int32) + y2)).toNatClampNeg) = M12
    have h13 := h10 M12 hhM12.symm
    refine z_iinc dX12_law_79 rfl (by decide) (ls' := [.ref 0, .int y1, .int (y2 + (1 : Int32))]) rfl ?_
    refine z_goto (tgt := 52) dX12_law_82 (by decide) ?_
    exact h13
def w_X12_weightOn_5 (E : zEv) (D : Nat) (post : Int32 → zM → Prop) (px : String → zM → Prop)  (y1 : Int32) (y2 : Int32) (y3 : Int32) (y4 : Int32) (M : zM) : Prop := Z E jX12_weightOn (D + 1) 0 (zQi post px) 5 0 [.ref 0, .int y1, .int y2, .int y3, .int y4] [] M
def w_X12_weightOn_48 (E : zEv) (D : Nat) (post : Int32 → zM → Prop) (px : String → zM → Prop)  (y1 : Int32) (y2 : Int32) (y4 : Int32) (s0 : Int32) (M : zM) : Prop := Z E jX12_weightOn (D + 1) 0 (zQi post px) 48 0 [.ref 0, .int y1, .int y2, zU, .int y4] [.int s0] M
def w_X12_weightOn_49 (E : zEv) (D : Nat) (post : Int32 → zM → Prop) (px : String → zM → Prop)  (y1 : Int32) (y2 : Int32) (y4 : Int32) (s0 : Int32) (s1 : Int32) (M : zM) : Prop := Z E jX12_weightOn (D + 1) 0 (zQi post px) 49 0 [.ref 0, .int y1, .int y2, zU, .int y4] [.int s0, .int s1] M
theorem e_X12_weightOn {E : zEv} {D : Nat} {post : Int32 → zM → Prop} {px : String → zM → Prop} {M : zM} {x1 : Int32} {x2 : Int32}  (h : w_X12_weightOn_5 E D post px x1 x2 (0 : Int32) (0 : Int32) M) : zCi E jX12_weightOn (D + 1) 0 [.ref 0, .int x1, .int x2] M post px := by
  refine z_meth (by decide) (Nat.le_of_ble_eq_true rfl) ?_
  show Z E jX12_weightOn (D + 1) 0 (zQi post px) 0 0 [.ref 0, .int x1, .int x2, zU, zU] [] M
  refine z_iconst (v := (0 : Int32)) dX12_weightOn_0 rfl ?_
  refine z_istore_n dX12_weightOn_1 (by decide) (ls' := [.ref 0, .int x1, .int x2, .int (0 : Int32), zU]) rfl ?_
  refine z_iconst (v := (0 : Int32)) dX12_weightOn_2 rfl ?_
  refine z_istore dX12_weightOn_3 (by decide) (ls' := [.ref 0, .int x1, .int x2, .int (0 : Int32), .int (0 : Int32)]) rfl ?_
  exact h
theorem t_X12_weightOn_5 {E : zEv} {D : Nat} {post : Int32 → zM → Prop} {px : String → zM → Prop} {M : zM}   {y1 : Int32} {y2 : Int32} {y3 : Int32} {y4 : Int32} (h : zCi E jX12_things D 0 [.ref 0] M (fun r3 M1 => ((r3 ≤ y4 → post y3 M1) ∧ (¬ r3 ≤ y4 → zCi E jX12_has D 0 [.int y2, .int y4] M1 (fun r9 M7 => ((r9 = 0 → w_X12_weightOn_48 E D post px y1 y2 y4 y3 M7) ∧ (¬ r9 = 0 → zCi E jX12_ofThing D 0 [.ref 0, .int y4, .int (1 : Int32)] M7 (fun r15 M13 => zCi E jX12_has D 0 [.int r15, .int y1] M13 (fun r18 M16 => ((r18 = 0 → w_X12_weightOn_48 E D post px y1 y2 y4 y3 M16) ∧ (¬ r18 = 0 → zCi E jX12_ofThing D 0 [.ref 0, .int y4, .int (0 : Int32)] M16 (fun r24 M22 => w_X12_weightOn_49 E D post px y1 y2 y4 r24 y3 M22) px))) px) px))) px))) px) : w_X12_weightOn_5 E D post px y1 y2 y3 y4 M := by
  show Z E jX12_weightOn (D + 1) 0 (zQi post px) 5 0 [.ref 0, .int y1, .int y2, .int y3, .int y4] [] M
  refine z_iload dX12_weightOn_5 rfl ?_
  refine z_aload_n dX12_weightOn_7 rfl ?_
  refine z_callVi (As := []) (st := [.int y4]) dX12_weightOn_8 zi_X12_85 rfl rfl zs_0 rfl rfl (Nat.le_of_ble_eq_true rfl) (by decide) (fun _ _ hx => hx) h ?_
  intro r3 M1 h2
  refine z_icmp_ge (tgt := 57) dX12_weightOn_11 (by decide) (fun g4 => ?_) (fun g4 => ?_)
  · have h5 := h2.1 g4
    refine z_iload_n dX12_weightOn_57 rfl ?_
    exact z_iret dX12_weightOn_58 rfl rfl (by decide) h5
  · have h6 := h2.2 g4
    refine z_iload_n dX12_weightOn_14 rfl ?_
    refine z_iload_n dX12_weightOn_15 rfl ?_
    refine z_iload dX12_weightOn_16 rfl ?_
    refine z_callSi (As := [.int y2, .int y4]) (st := [.int y3]) dX12_weightOn_18 zi_X12_147 rfl rfl (Nat.le_of_ble_eq_true rfl) (by decide) (fun _ _ hx => hx) h6 ?_
    intro r9 M7 h8
    refine z_if_eq (tgt := 48) dX12_weightOn_21 (by decide) (fun g10 => ?_) (fun g10 => ?_)
    · have h11 := h8.1 g10
      refine z_weak [true, true, true, false, true] (ls' := [.ref 0, .int y1, .int y2, zU, .int y4]) rfl rfl ?_
      exact h11
    · have h12 := h8.2 g10
      refine z_aload_n dX12_weightOn_24 rfl ?_
      refine z_iload dX12_weightOn_25 rfl ?_
      refine z_iconst (v := (1 : Int32)) dX12_weightOn_27 rfl ?_
      refine z_callVi (As := [.int y4, .int (1 : Int32)]) (st := [.int y3]) dX12_weightOn_28 zi_X12_89 rfl rfl zs_0 rfl rfl (Nat.le_of_ble_eq_true rfl) (by decide) (fun _ _ hx => hx) h12 ?_
      intro r15 M13 h14
      refine z_iload_n dX12_weightOn_31 rfl ?_
      refine z_callSi (As := [.int r15, .int y1]) (st := [.int y3]) dX12_weightOn_32 zi_X12_147 rfl rfl (Nat.le_of_ble_eq_true rfl) (by decide) (fun _ _ hx => hx) h14 ?_
      intro r18 M16 h17
      refine z_if_eq (tgt := 48) dX12_weightOn_35 (by decide) (fun g19 => ?_) (fun g19 => ?_)
      · have h20 := h17.1 g19
        refine z_weak [true, true, true, false, true] (ls' := [.ref 0, .int y1, .int y2, zU, .int y4]) rfl rfl ?_
        exact h20
      · have h21 := h17.2 g19
        refine z_aload_n dX12_weightOn_38 rfl ?_
        refine z_iload dX12_weightOn_39 rfl ?_
        refine z_iconst (v := (0 : Int32)) dX12_weightOn_41 rfl ?_
        refine z_callVi (As := [.int y4, .int (0 : Int32)]) (st := [.int y3]) dX12_weightOn_42 zi_X12_89 rfl rfl zs_0 rfl rfl (Nat.le_of_ble_eq_true rfl) (by decide) (fun _ _ hx => hx) h21 ?_
        intro r24 M22 h23
        refine z_goto (tgt := 49) dX12_weightOn_45 (by decide) ?_
        refine z_weak [true, true, true, false, true] (ls' := [.ref 0, .int y1, .int y2, zU, .int y4]) rfl rfl ?_
        exact h23
theorem t_X12_weightOn_48 {E : zEv} {D : Nat} {post : Int32 → zM → Prop} {px : String → zM → Prop} {M : zM}   {y1 : Int32} {y2 : Int32} {y4 : Int32} {s0 : Int32} (h : w_X12_weightOn_49 E D post px y1 y2 y4 (0 : Int32) s0 M) : w_X12_weightOn_48 E D post px y1 y2 y4 s0 M := by
  show Z E jX12_weightOn (D + 1) 0 (zQi post px) 48 0 [.ref 0, .int y1, .int y2, zU, .int y4] [.int s0] M
  refine z_iconst (v := (0 : Int32)) dX12_weightOn_48 rfl ?_
  exact h
theorem t_X12_weightOn_49 {E : zEv} {D : Nat} {post : Int32 → zM → Prop} {px : String → zM → Prop} {M : zM}   {y1 : Int32} {y2 : Int32} {y4 : Int32} {s0 : Int32} {s1 : Int32} (h : w_X12_weightOn_5 E D post px y1 y2 (s1 + s0) (y4 + (1 : Int32)) M) : w_X12_weightOn_49 E D post px y1 y2 y4 s0 s1 M := by
  show Z E jX12_weightOn (D + 1) 0 (zQi post px) 49 0 [.ref 0, .int y1, .int y2, zU, .int y4] [.int s0, .int s1] M
  refine z_iadd dX12_weightOn_49 ?_
  refine z_istore_n dX12_weightOn_50 (by decide) (ls' := [.ref 0, .int y1, .int y2, .int (s1 + s0), .int y4]) rfl ?_
  refine z_iinc dX12_weightOn_51 rfl (by decide) (ls' := [.ref 0, .int y1, .int y2, .int (s1 + s0), .int (y4 + (1 : Int32))]) rfl ?_
  refine z_goto (tgt := 5) dX12_weightOn_54 (by decide) ?_
  exact h
def w_X12_isEdge_24 (E : zEv) (D : Nat) (post : Int32 → zM → Prop) (px : String → zM → Prop)   (M : zM) : Prop := Z E jX12_isEdge (D + 1) 0 (zQi post px) 24 0 [zU, zU] [] M
def w_X12_isEdge_29 (E : zEv) (D : Nat) (post : Int32 → zM → Prop) (px : String → zM → Prop)  (s0 : Int32) (M : zM) : Prop := Z E jX12_isEdge (D + 1) 0 (zQi post px) 29 0 [zU, zU] [.int s0] M
theorem e_X12_isEdge {E : zEv} {D : Nat} {post : Int32 → zM → Prop} {px : String → zM → Prop} {M : zM} {x1 : Int32}  (h : zCi E jX12_of D 0 [.ref 0, .int x1, .int (4 : Int32)] M (fun r3 M1 => ((r3 = 0 → w_X12_isEdge_24 E D post px  M1) ∧ (¬ r3 = 0 → zCi E jX12_of D 0 [.ref 0, .int x1, .int (4 : Int32)] M1 (fun r9 M7 => zCi E jX12_witnesses D 0 [.ref 0] M7 (fun r12 M10 => ((¬ r9 = (r12 - (1 : Int32)) → w_X12_isEdge_29 E D post px (0 : Int32) M10) ∧ (r9 = (r12 - (1 : Int32)) → w_X12_isEdge_24 E D post px  M10))) px) px))) px) : zCi E jX12_isEdge (D + 1) 0 [.ref 0, .int x1] M post px := by
  refine z_meth (by decide) (Nat.le_of_ble_eq_true rfl) ?_
  show Z E jX12_isEdge (D + 1) 0 (zQi post px) 0 0 [.ref 0, .int x1] [] M
  refine z_aload_n dX12_isEdge_0 rfl ?_
  refine z_iload_n dX12_isEdge_1 rfl ?_
  refine z_iconst (v := (4 : Int32)) dX12_isEdge_2 rfl ?_
  refine z_callVi (As := [.int x1, .int (4 : Int32)]) (st := []) dX12_isEdge_3 zi_X12_285 rfl rfl zs_0 rfl rfl (Nat.le_of_ble_eq_true rfl) (by decide) (fun _ _ hx => hx) h ?_
  intro r3 M1 h2
  refine z_if_eq (tgt := 24) dX12_isEdge_6 (by decide) (fun g4 => ?_) (fun g4 => ?_)
  · have h5 := h2.1 g4
    refine z_weak [false, false] (ls' := [zU, zU]) rfl rfl ?_
    exact h5
  · have h6 := h2.2 g4
    refine z_aload_n dX12_isEdge_9 rfl ?_
    refine z_iload_n dX12_isEdge_10 rfl ?_
    refine z_iconst (v := (4 : Int32)) dX12_isEdge_11 rfl ?_
    refine z_callVi (As := [.int x1, .int (4 : Int32)]) (st := []) dX12_isEdge_12 zi_X12_285 rfl rfl zs_0 rfl rfl (Nat.le_of_ble_eq_true rfl) (by decide) (fun _ _ hx => hx) h6 ?_
    intro r9 M7 h8
    refine z_aload_n dX12_isEdge_15 rfl ?_
    refine z_callVi (As := []) (st := [.int r9]) dX12_isEdge_16 zi_X12_92 rfl rfl zs_0 rfl rfl (Nat.le_of_ble_eq_true rfl) (by decide) (fun _ _ hx => hx) h8 ?_
    intro r12 M10 h11
    refine z_iconst (v := (1 : Int32)) dX12_isEdge_19 rfl ?_
    refine z_isub dX12_isEdge_20 ?_
    refine z_icmp_ne (tgt := 28) dX12_isEdge_21 (by decide) (fun g13 => ?_) (fun g13 => ?_)
    · have h14 := h11.1 g13
      refine z_iconst (v := (0 : Int32)) dX12_isEdge_28 rfl ?_
      refine z_weak [false, false] (ls' := [zU, zU]) rfl rfl ?_
      exact h14
    · have h15 := h11.2 g13
      refine z_weak [false, false] (ls' := [zU, zU]) rfl rfl ?_
      exact h15
theorem t_X12_isEdge_24 {E : zEv} {D : Nat} {post : Int32 → zM → Prop} {px : String → zM → Prop} {M : zM}    (h : w_X12_isEdge_29 E D post px (1 : Int32) M) : w_X12_isEdge_24 E D post px  M := by
  show Z E jX12_isEdge (D + 1) 0 (zQi post px) 24 0 [zU, zU] [] M
  refine z_iconst (v := (1 : Int32)) dX12_isEdge_24 rfl ?_
  refine z_goto (tgt := 29) dX12_isEdge_25 (by decide) ?_
  exact h
theorem t_X12_isEdge_29 {E : zEv} {D : Nat} {post : Int32 → zM → Prop} {px : String → zM → Prop} {M : zM}   {s0 : Int32} (h : (s0 = 0 ∨ s0 = 1) ∧ post s0 M) : w_X12_isEdge_29 E D post px s0 M := by
  show Z E jX12_isEdge (D + 1) 0 (zQi post px) 29 0 [zU, zU] [.int s0] M
  obtain ⟨g2, h1⟩ := h
  exact z_iret dX12_isEdge_29 rfl (zbool g2) (by decide) h1
def w_X12_factOf_128 (E : zEv) (D : Nat) (post : Int32 → zM → Prop) (px : String → zM → Prop)  (s0 : Int32) (M : zM) : Prop := Z E jX12_factOf (D + 1) 0 (zQi post px) 128 0 [zU, zU, zU, zU, zU] [.int s0] M
def w_X12_factOf_145 (E : zEv) (D : Nat) (post : Int32 → zM → Prop) (px : String → zM → Prop)  (s0 : Int32) (M : zM) : Prop := Z E jX12_factOf (D + 1) 0 (zQi post px) 145 0 [zU, zU, zU, zU, zU] [.int s0] M
def w_X12_factOf_159 (E : zEv) (D : Nat) (post : Int32 → zM → Prop) (px : String → zM → Prop)  (s0 : Int32) (M : zM) : Prop := Z E jX12_factOf (D + 1) 0 (zQi post px) 159 0 [zU, zU, zU, zU, zU] [.int s0] M
theorem e_X12_factOf {E : zEv} {D : Nat} {post : Int32 → zM → Prop} {px : String → zM → Prop} {M : zM} {x1 : Int32} {x2 : Int32} {x3 : Int32} {x4 : Int32}  (h : ((x1 = (0 : Int32) → post x3 M) ∧ (¬ x1 = (0 : Int32) → ((x1 = (1 : Int32) → zCi E jX12_of D 0 [.ref 0, .int x3, .int (0 : Int32)] M (fun r8 M6 => post r8 M6) px) ∧ (¬ x1 = (1 : Int32) → ((x1 = (2 : Int32) → zCi E jX12_of D 0 [.ref 0, .int x3, .int (1 : Int32)] M (fun r14 M12 => post r14 M12) px) ∧ (¬ x1 = (2 : Int32) → ((x1 = (3 : Int32) → zCi E jX12_of D 0 [.ref 0, .int x3, .int (2 : Int32)] M (fun r20 M18 => post r20 M18) px) ∧ (¬ x1 = (3 : Int32) → ((x1 = (4 : Int32) → zCi E jX12_of D 0 [.ref 0, .int x3, .int (3 : Int32)] M (fun r26 M24 => post r26 M24) px) ∧ (¬ x1 = (4 : Int32) → ((x1 = (5 : Int32) → post (M.1 1 ((7 : Int32)).toNatClampNeg) M) ∧ (¬ x1 = (5 : Int32) → ((x1 = (6 : Int32) → zCi E jX12_weightOn D 0 [.ref 0, .int x3, .int x4] M (fun r35 M33 => post r35 M33) px) ∧ (¬ x1 = (6 : Int32) → ((x1 = (7 : Int32) → zCi E jX12_of D 0 [.ref 0, .int x3, .int (4 : Int32)] M (fun r41 M39 => post r41 M39) px) ∧ (¬ x1 = (7 : Int32) → ((x1 = (8 : Int32) → zCi E jX12_weightOn D 0 [.ref 0, .int x3, .int x4] M (fun r47 M45 => ((r47 ≤ 0 → w_X12_factOf_128 E D post px (0 : Int32) M45) ∧ (¬ r47 ≤ 0 → w_X12_factOf_128 E D post px (1 : Int32) M45))) px) ∧ (¬ x1 = (8 : Int32) → ((x1 = (9 : Int32) → zCi E jX12_of D 0 [.ref 0, .int x3, .int (3 : Int32)] M (fun r56 M54 => ((r56 < (50 : Int32) → w_X12_factOf_145 E D post px (0 : Int32) M54) ∧ (¬ r56 < (50 : Int32) → w_X12_factOf_145 E D post px (1 : Int32) M54))) px) ∧ (¬ x1 = (9 : Int32) → ((x1 = (10 : Int32) → zCi E jX12_isEdge D 0 [.ref 0, .int x3] M (fun r65 M63 => ((r65 = 0 → w_X12_factOf_159 E D post px (0 : Int32) M63) ∧ (¬ r65 = 0 → w_X12_factOf_159 E D post px (1 : Int32) M63))) px) ∧ (¬ x1 = (10 : Int32) → post x2 M))))))))))))))))))))))) : zCi E jX12_factOf (D + 1) 0 [.ref 0, .int x1, .int x2, .int x3, .int x4] M post px := by
  refine z_meth (by decide) (Nat.le_of_ble_eq_true rfl) ?_
  show Z E jX12_factOf (D + 1) 0 (zQi post px) 0 0 [.ref 0, .int x1, .int x2, .int x3, .int x4] [] M
  refine z_iload_n dX12_factOf_0 rfl ?_
  by_cases g1 : x1 = (0 : Int32)
  · have h2 := h.1 g1
    refine z_tableIn (tgt := 60) dX12_factOf_1 (by rw [g1]; decide) (by rw [g1]; decide) (by rw [g1]; rfl) (by decide) ?_
    refine z_iload_n dX12_factOf_60 rfl ?_
    exact z_iret dX12_factOf_61 rfl rfl (by decide) h2
  have h3 := h.2 g1
  by_cases g4 : x1 = (1 : Int32)
  · have h5 := h3.1 g4
    refine z_tableIn (tgt := 62) dX12_factOf_1 (by rw [g4]; decide) (by rw [g4]; decide) (by rw [g4]; rfl) (by decide) ?_
    refine z_aload_n dX12_factOf_62 rfl ?_
    refine z_iload_n dX12_factOf_63 rfl ?_
    refine z_iconst (v := (0 : Int32)) dX12_factOf_64 rfl ?_
    refine z_callVi (As := [.int x3, .int (0 : Int32)]) (st := []) dX12_factOf_65 zi_X12_285 rfl rfl zs_0 rfl rfl (Nat.le_of_ble_eq_true rfl) (by decide) (fun _ _ hx => hx) h5 ?_
    intro r8 M6 h7
    exact z_iret dX12_factOf_68 rfl rfl (by decide) h7
  have h9 := h3.2 g4
  by_cases g10 : x1 = (2 : Int32)
  · have h11 := h9.1 g10
    refine z_tableIn (tgt := 69) dX12_factOf_1 (by rw [g10]; decide) (by rw [g10]; decide) (by rw [g10]; rfl) (by decide) ?_
    refine z_aload_n dX12_factOf_69 rfl ?_
    refine z_iload_n dX12_factOf_70 rfl ?_
    refine z_iconst (v := (1 : Int32)) dX12_factOf_71 rfl ?_
    refine z_callVi (As := [.int x3, .int (1 : Int32)]) (st := []) dX12_factOf_72 zi_X12_285 rfl rfl zs_0 rfl rfl (Nat.le_of_ble_eq_true rfl) (by decide) (fun _ _ hx => hx) h11 ?_
    intro r14 M12 h13
    exact z_iret dX12_factOf_75 rfl rfl (by decide) h13
  have h15 := h9.2 g10
  by_cases g16 : x1 = (3 : Int32)
  · have h17 := h15.1 g16
    refine z_tableIn (tgt := 76) dX12_factOf_1 (by rw [g16]; decide) (by rw [g16]; decide) (by rw [g16]; rfl) (by decide) ?_
    refine z_aload_n dX12_factOf_76 rfl ?_
    refine z_iload_n dX12_factOf_77 rfl ?_
    refine z_iconst (v := (2 : Int32)) dX12_factOf_78 rfl ?_
    refine z_callVi (As := [.int x3, .int (2 : Int32)]) (st := []) dX12_factOf_79 zi_X12_285 rfl rfl zs_0 rfl rfl (Nat.le_of_ble_eq_true rfl) (by decide) (fun _ _ hx => hx) h17 ?_
    intro r20 M18 h19
    exact z_iret dX12_factOf_82 rfl rfl (by decide) h19
  have h21 := h15.2 g16
  by_cases g22 : x1 = (4 : Int32)
  · have h23 := h21.1 g22
    refine z_tableIn (tgt := 83) dX12_factOf_1 (by rw [g22]; decide) (by rw [g22]; decide) (by rw [g22]; rfl) (by decide) ?_
    refine z_aload_n dX12_factOf_83 rfl ?_
    refine z_iload_n dX12_factOf_84 rfl ?_
    refine z_iconst (v := (3 : Int32)) dX12_factOf_85 rfl ?_
    refine z_callVi (As := [.int x3, .int (3 : Int32)]) (st := []) dX12_factOf_86 zi_X12_285 rfl rfl zs_0 rfl rfl (Nat.le_of_ble_eq_true rfl) (by decide) (fun _ _ hx => hx) h23 ?_
    intro r26 M24 h25
    exact z_iret dX12_factOf_89 rfl rfl (by decide) h25
  have h27 := h21.2 g22
  by_cases g28 : x1 = (5 : Int32)
  · have h29 := h27.1 g28
    refine z_tableIn (tgt := 90) dX12_factOf_1 (by rw [g28]; decide) (by rw [g28]; decide) (by rw [g28]; rfl) (by decide) ?_
    refine z_aload_n dX12_factOf_90 rfl ?_
    refine z_getR dX12_factOf_91 zg_X12_13 zs_0 rfl ?_
    refine z_bipush (v := (7 : Int32)) dX12_factOf_94 rfl ?_
    refine z_iald dX12_factOf_96 zs_1 (by unfold vp_in; decide) ?_
    exact z_iret dX12_factOf_97 rfl rfl (by decide) h29
  have h30 := h27.2 g28
  by_cases g31 : x1 = (6 : Int32)
  · have h32 := h30.1 g31
    refine z_tableIn (tgt := 98) dX12_factOf_1 (by rw [g31]; decide) (by rw [g31]; decide) (by rw [g31]; rfl) (by decide) ?_
    refine z_aload_n dX12_factOf_98 rfl ?_
    refine z_iload_n dX12_factOf_99 rfl ?_
    refine z_iload dX12_factOf_100 rfl ?_
    refine z_callVi (As := [.int x3, .int x4]) (st := []) dX12_factOf_102 zi_X12_288 rfl rfl zs_0 rfl rfl (Nat.le_of_ble_eq_true rfl) (by decide) (fun _ _ hx => hx) h32 ?_
    intro r35 M33 h34
    exact z_iret dX12_factOf_105 rfl rfl (by decide) h34
  have h36 := h30.2 g31
  by_cases g37 : x1 = (7 : Int32)
  · have h38 := h36.1 g37
    refine z_tableIn (tgt := 106) dX12_factOf_1 (by rw [g37]; decide) (by rw [g37]; decide) (by rw [g37]; rfl) (by decide) ?_
    refine z_aload_n dX12_factOf_106 rfl ?_
    refine z_iload_n dX12_factOf_107 rfl ?_
    refine z_iconst (v := (4 : Int32)) dX12_factOf_108 rfl ?_
    refine z_callVi (As := [.int x3, .int (4 : Int32)]) (st := []) dX12_factOf_109 zi_X12_285 rfl rfl zs_0 rfl rfl (Nat.le_of_ble_eq_true rfl) (by decide) (fun _ _ hx => hx) h38 ?_
    intro r41 M39 h40
    exact z_iret dX12_factOf_112 rfl rfl (by decide) h40
  have h42 := h36.2 g37
  by_cases g43 : x1 = (8 : Int32)
  · have h44 := h42.1 g43
    refine z_tableIn (tgt := 113) dX12_factOf_1 (by rw [g43]; decide) (by rw [g43]; decide) (by rw [g43]; rfl) (by decide) ?_
    refine z_aload_n dX12_factOf_113 rfl ?_
    refine z_iload_n dX12_factOf_114 rfl ?_
    refine z_iload dX12_factOf_115 rfl ?_
    refine z_callVi (As := [.int x3, .int x4]) (st := []) dX12_factOf_117 zi_X12_288 rfl rfl zs_0 rfl rfl (Nat.le_of_ble_eq_true rfl) (by decide) (fun _ _ hx => hx) h44 ?_
    intro r47 M45 h46
    refine z_if_le (tgt := 127) dX12_factOf_120 (by decide) (fun g48 => ?_) (fun g48 => ?_)
    · have h49 := h46.1 g48
      refine z_iconst (v := (0 : Int32)) dX12_factOf_127 rfl ?_
      refine z_weak [false, false, false, false, false] (ls' := [zU, zU, zU, zU, zU]) rfl rfl ?_
      exact h49
    · have h50 := h46.2 g48
      refine z_iconst (v := (1 : Int32)) dX12_factOf_123 rfl ?_
      refine z_goto (tgt := 128) dX12_factOf_124 (by decide) ?_
      refine z_weak [false, false, false, false, false] (ls' := [zU, zU, zU, zU, zU]) rfl rfl ?_
      exact h50
  have h51 := h42.2 g43
  by_cases g52 : x1 = (9 : Int32)
  · have h53 := h51.1 g52
    refine z_tableIn (tgt := 129) dX12_factOf_1 (by rw [g52]; decide) (by rw [g52]; decide) (by rw [g52]; rfl) (by decide) ?_
    refine z_aload_n dX12_factOf_129 rfl ?_
    refine z_iload_n dX12_factOf_130 rfl ?_
    refine z_iconst (v := (3 : Int32)) dX12_factOf_131 rfl ?_
    refine z_callVi (As := [.int x3, .int (3 : Int32)]) (st := []) dX12_factOf_132 zi_X12_285 rfl rfl zs_0 rfl rfl (Nat.le_of_ble_eq_true rfl) (by decide) (fun _ _ hx => hx) h53 ?_
    intro r56 M54 h55
    refine z_bipush (v := (50 : Int32)) dX12_factOf_135 rfl ?_
    refine z_icmp_lt (tgt := 144) dX12_factOf_137 (by decide) (fun g57 => ?_) (fun g57 => ?_)
    · have h58 := h55.1 g57
      refine z_iconst (v := (0 : Int32)) dX12_factOf_144 rfl ?_
      refine z_weak [false, false, false, false, false] (ls' := [zU, zU, zU, zU, zU]) rfl rfl ?_
      exact h58
    · have h59 := h55.2 g57
      refine z_iconst (v := (1 : Int32)) dX12_factOf_140 rfl ?_
      refine z_goto (tgt := 145) dX12_factOf_141 (by decide) ?_
      refine z_weak [false, false, false, false, false] (ls' := [zU, zU, zU, zU, zU]) rfl rfl ?_
      exact h59
  have h60 := h51.2 g52
  by_cases g61 : x1 = (10 : Int32)
  · have h62 := h60.1 g61
    refine z_tableIn (tgt := 146) dX12_factOf_1 (by rw [g61]; decide) (by rw [g61]; decide) (by rw [g61]; rfl) (by decide) ?_
    refine z_aload_n dX12_factOf_146 rfl ?_
    refine z_iload_n dX12_factOf_147 rfl ?_
    refine z_callVi (As := [.int x3]) (st := []) dX12_factOf_148 zi_X12_291 rfl rfl zs_0 rfl rfl (Nat.le_of_ble_eq_true rfl) (by decide) (fun _ _ hx => hx) h62 ?_
    intro r65 M63 h64
    refine z_if_eq (tgt := 158) dX12_factOf_151 (by decide) (fun g66 => ?_) (fun g66 => ?_)
    · have h67 := h64.1 g66
      refine z_iconst (v := (0 : Int32)) dX12_factOf_158 rfl ?_
      refine z_weak [false, false, false, false, false] (ls' := [zU, zU, zU, zU, zU]) rfl rfl ?_
      exact h67
    · have h68 := h64.2 g66
      refine z_iconst (v := (1 : Int32)) dX12_factOf_154 rfl ?_
      refine z_goto (tgt := 159) dX12_factOf_155 (by decide) ?_
      refine z_weak [false, false, false, false, false] (ls' := [zU, zU, zU, zU, zU]) rfl rfl ?_
      exact h68
  have h69 := h60.2 g61
  refine z_tableOut (tgt := 160) dX12_factOf_1 (by have := zne_toInt g1 (by decide : ((0 : Int32)).toInt = 0); have := zne_toInt g4 (by decide : ((1 : Int32)).toInt = 1); have := zne_toInt g10 (by decide : ((2 : Int32)).toInt = 2); have := zne_toInt g16 (by decide : ((3 : Int32)).toInt = 3); have := zne_toInt g22 (by decide : ((4 : Int32)).toInt = 4); have := zne_toInt g28 (by decide : ((5 : Int32)).toInt = 5); have := zne_toInt g31 (by decide : ((6 : Int32)).toInt = 6); have := zne_toInt g37 (by decide : ((7 : Int32)).toInt = 7); have := zne_toInt g43 (by decide : ((8 : Int32)).toInt = 8); have := zne_toInt g52 (by decide : ((9 : Int32)).toInt = 9); have := zne_toInt g61 (by decide : ((10 : Int32)).toInt = 10); omega) (by decide) ?_
  refine z_iload_n dX12_factOf_160 rfl ?_
  exact z_iret dX12_factOf_161 rfl rfl (by decide) h69
theorem t_X12_factOf_128 {E : zEv} {D : Nat} {post : Int32 → zM → Prop} {px : String → zM → Prop} {M : zM}   {s0 : Int32} (h : post s0 M) : w_X12_factOf_128 E D post px s0 M := by
  show Z E jX12_factOf (D + 1) 0 (zQi post px) 128 0 [zU, zU, zU, zU, zU] [.int s0] M
  exact z_iret dX12_factOf_128 rfl rfl (by decide) h
theorem t_X12_factOf_145 {E : zEv} {D : Nat} {post : Int32 → zM → Prop} {px : String → zM → Prop} {M : zM}   {s0 : Int32} (h : post s0 M) : w_X12_factOf_145 E D post px s0 M := by
  show Z E jX12_factOf (D + 1) 0 (zQi post px) 145 0 [zU, zU, zU, zU, zU] [.int s0] M
  exact z_iret dX12_factOf_145 rfl rfl (by decide) h
theorem t_X12_factOf_159 {E : zEv} {D : Nat} {post : Int32 → zM → Prop} {px : String → zM → Prop} {M : zM}   {s0 : Int32} (h : post s0 M) : w_X12_factOf_159 E D post px s0 M := by
  show Z E jX12_factOf (D + 1) 0 (zQi post px) 159 0 [zU, zU, zU, zU, zU] [.int s0] M
  exact z_iret dX12_factOf_159 rfl rfl (by decide) h
def w_X12_holdsLine_23 (E : zEv) (D : Nat) (post : Int32 → zM → Prop) (px : String → zM → Prop)  (y2 : Int32) (y3 : Int32) (y4 : Int32) (y5 : Int32) (y6 : Int32) (M : zM) : Prop := Z E jX12_holdsLine (D + 1) 0 (zQi post px) 23 0 [.ref 0, zU, .int y2, .int y3, .int y4, .int y5, .int y6, zU, zU, zU, zU] [] M
def w_X12_holdsLine_286 (E : zEv) (D : Nat) (post : Int32 → zM → Prop) (px : String → zM → Prop)   (M : zM) : Prop := Z E jX12_holdsLine (D + 1) 0 (zQi post px) 286 0 [zU, zU, zU, zU, zU, zU, zU, zU, zU, zU, zU] [] M
def w_X12_holdsLine_291 (E : zEv) (D : Nat) (post : Int32 → zM → Prop) (px : String → zM → Prop)  (s0 : Int32) (M : zM) : Prop := Z E jX12_holdsLine (D + 1) 0 (zQi post px) 291 0 [zU, zU, zU, zU, zU, zU, zU, zU, zU, zU, zU] [.int s0] M
def w_X12_holdsLine_229 (E : zEv) (D : Nat) (post : Int32 → zM → Prop) (px : String → zM → Prop)  (y2 : Int32) (y3 : Int32) (y4 : Int32) (y5 : Int32) (y6 : Int32) (y7 : Int32) (y8 : Int32) (y9 : Int32) (s0 : Int32) (M : zM) : Prop := Z E jX12_holdsLine (D + 1) 0 (zQi post px) 229 0 [.ref 0, zU, .int y2, .int y3, .int y4, .int y5, .int y6, .int y7, .int y8, .int y9, zU] [.int s0] M
def w_X12_holdsLine_265 (E : zEv) (D : Nat) (post : Int32 → zM → Prop) (px : String → zM → Prop)  (y2 : Int32) (y3 : Int32) (y4 : Int32) (y5 : Int32) (y6 : Int32) (M : zM) : Prop := Z E jX12_holdsLine (D + 1) 0 (zQi post px) 265 0 [.ref 0, zU, .int y2, .int y3, .int y4, .int y5, .int y6, zU, zU, zU, zU] [] M
def w_X12_holdsLine_264 (E : zEv) (D : Nat) (post : Int32 → zM → Prop) (px : String → zM → Prop)  (y2 : Int32) (y3 : Int32) (y4 : Int32) (y5 : Int32) (y6 : Int32) (s0 : Int32) (s1 : Int32) (M : zM) : Prop := Z E jX12_holdsLine (D + 1) 0 (zQi post px) 264 0 [.ref 0, zU, .int y2, .int y3, .int y4, .int y5, .int y6, zU, zU, zU, zU] [.int s0, .int s1, .ref 8] M
theorem e_X12_holdsLine {E : zEv} {D : Nat} {post : Int32 → zM → Prop} {px : String → zM → Prop} {M : zM} {x1 : Int32} {x2 : Int32} {x3 : Int32}  (h : vp_in (((373 : Int32) + ((4 : Int32) * x1)) + (2 : Int32)) 2070 ∧ w_X12_holdsLine_23 E D post px x2 x3 (0 : Int32) ((373 : Int32) + ((4 : Int32) * x1)) (M.1 1 ((((373 : Int32) + ((4 : Int32) * x1)) + (2 : Int32))).toNatClampNeg) M) : zCi E jX12_holdsLine (D + 1) 0 [.ref 0, .int x1, .int x2, .int x3] M post px := by
  refine z_meth (by decide) (Nat.le_of_ble_eq_true rfl) ?_
  show Z E jX12_holdsLine (D + 1) 0 (zQi post px) 0 0 [.ref 0, .int x1, .int x2, .int x3, zU, zU, zU, zU, zU, zU, zU] [] M
  refine z_iconst (v := (0 : Int32)) dX12_holdsLine_0 rfl ?_
  refine z_istore dX12_holdsLine_1 (by decide) (ls' := [.ref 0, .int x1, .int x2, .int x3, .int (0 : Int32), zU, zU, zU, zU, zU, zU]) rfl ?_
  refine z_sipush (v := (373 : Int32)) dX12_holdsLine_3 rfl ?_
  refine z_iconst (v := (4 : Int32)) dX12_holdsLine_6 rfl ?_
  refine z_iload_n dX12_holdsLine_7 rfl ?_
  refine z_imul dX12_holdsLine_8 ?_
  refine z_iadd dX12_holdsLine_9 ?_
  refine z_istore dX12_holdsLine_10 (by decide) (ls' := [.ref 0, .int x1, .int x2, .int x3, .int (0 : Int32), .int ((373 : Int32) + ((4 : Int32) * x1)), zU, zU, zU, zU, zU]) rfl ?_
  refine z_aload_n dX12_holdsLine_12 rfl ?_
  refine z_getR dX12_holdsLine_13 zg_X12_13 zs_0 rfl ?_
  refine z_iload dX12_holdsLine_16 rfl ?_
  refine z_iconst (v := (2 : Int32)) dX12_holdsLine_18 rfl ?_
  refine z_iadd dX12_holdsLine_19 ?_
  obtain ⟨g2, h1⟩ := h
  refine z_iald dX12_holdsLine_20 zs_1 g2 ?_
  refine z_istore dX12_holdsLine_21 (by decide) (ls' := [.ref 0, .int x1, .int x2, .int x3, .int (0 : Int32), .int ((373 : Int32) + ((4 : Int32) * x1)), .int (M.1 1 ((((373 : Int32) + ((4 : Int32) * x1)) + (2 : Int32))).toNatClampNeg), zU, zU, zU, zU]) rfl ?_
  refine z_weak [true, false, true, true, true, true, true, false, false, false, false] (ls' := [.ref 0, zU, .int x2, .int x3, .int (0 : Int32), .int ((373 : Int32) + ((4 : Int32) * x1)), .int (M.1 1 ((((373 : Int32) + ((4 : Int32) * x1)) + (2 : Int32))).toNatClampNeg), zU, zU, zU, zU]) rfl rfl ?_
  exact h1
theorem t_X12_holdsLine_23 {E : zEv} {D : Nat} {post : Int32 → zM → Prop} {px : String → zM → Prop} {M : zM}   {y2 : Int32} {y3 : Int32} {y4 : Int32} {y5 : Int32} {y6 : Int32} (h : vp_in (y5 + (3 : Int32)) 2070 ∧ (((M.1 1 ((y5 + (3 : Int32))).toNatClampNeg) ≤ y6 → ((y4 = 0 → w_X12_holdsLine_286 E D post px  M) ∧ (¬ y4 = 0 → ((¬ (M.1 8 ((0 : Int32)).toNatClampNeg) = (1 : Int32) → w_X12_holdsLine_291 E D post px (0 : Int32) M) ∧ ((M.1 8 ((0 : Int32)).toNatClampNeg) = (1 : Int32) → w_X12_holdsLine_286 E D post px  M))))) ∧ (¬ (M.1 1 ((y5 + (3 : Int32))).toNatClampNeg) ≤ y6 → vp_in ((421 : Int32) + ((2 : Int32) * y6)) 2070 ∧ (((11 : Int32) < (M.1 1 (((421 : Int32) + ((2 : Int32) * y6))).toNatClampNeg) → ((¬ (M.1 1 (((421 : Int32) + ((2 : Int32) * y6))).toNatClampNeg) = (15 : Int32) → vp_in ((y4 + (-1 : Int32)) - (1 : Int32)) 400 ∧ vp_in (y4 + (-1 : Int32)) 400 ∧ ((¬ (M.1 1 (((421 : Int32) + ((2 : Int32) * y6))).toNatClampNeg) = (13 : Int32) → ((¬ (M.1 1 (((421 : Int32) + ((2 : Int32) * y6))).toNatClampNeg) = (14 : Int32) → ((¬ (M.1 1 (((421 : Int32) + ((2 : Int32) * y6))).toNatClampNeg) = (16 : Int32) → ((((M.1 8 (((y4 + (-1 : Int32)) - (1 : Int32))).toNatClampNeg) + (M.1 8 ((y4 + (-1 : Int32))).toNatClampNeg)) ≤ 0 → w_X12_holdsLine_229 E D post px y2 y3 (y4 + (-1 : Int32)) y5 y6 (M.1 1 (((421 : Int32) + ((2 : Int32) * y6))).toNatClampNeg) (M.1 8 (((y4 + (-1 : Int32)) - (1 : Int32))).toNatClampNeg) (M.1 8 ((y4 + (-1 : Int32))).toNatClampNeg) (0 : Int32) M) ∧ (¬ ((M.1 8 (((y4 + (-1 : Int32)) - (1 : Int32))).toNatClampNeg) + (M.1 8 ((y4 + (-1 : Int32))).toNatClampNeg)) ≤ 0 → w_X12_holdsLine_229 E D post px y2 y3 (y4 + (-1 : Int32)) y5 y6 (M.1 1 (((421 : Int32) + ((2 : Int32) * y6))).toNatClampNeg) (M.1 8 (((y4 + (-1 : Int32)) - (1 : Int32))).toNatClampNeg) (M.1 8 ((y4 + (-1 : Int32))).toNatClampNeg) (1 : Int32) M))) ∧ ((M.1 1 (((421 : Int32) + ((2 : Int32) * y6))).toNatClampNeg) = (16 : Int32) → ((¬ ((M.1 8 (((y4 + (-1 : Int32)) - (1 : Int32))).toNatClampNeg) + (M.1 8 ((y4 + (-1 : Int32))).toNatClampNeg)) = (2 : Int32) → w_X12_holdsLine_229 E D post px y2 y3 (y4 + (-1 : Int32)) y5 y6 (M.1 1 (((421 : Int32) + ((2 : Int32) * y6))).toNatClampNeg) (M.1 8 (((y4 + (-1 : Int32)) - (1 : Int32))).toNatClampNeg) (M.1 8 ((y4 + (-1 : Int32))).toNatClampNeg) (0 : Int32) M) ∧ (((M.1 8 (((y4 + (-1 : Int32)) - (1 : Int32))).toNatClampNeg) + (M.1 8 ((y4 + (-1 : Int32))).toNatClampNeg)) = (2 : Int32) → w_X12_holdsLine_229 E D post px y2 y3 (y4 + (-1 : Int32)) y5 y6 (M.1 1 (((421 : Int32) + ((2 : Int32) * y6))).toNatClampNeg) (M.1 8 (((y4 + (-1 : Int32)) - (1 : Int32))).toNatClampNeg) (M.1 8 ((y4 + (-1 : Int32))).toNatClampNeg) (1 : Int32) M))))) ∧ ((M.1 1 (((421 : Int32) + ((2 : Int32) * y6))).toNatClampNeg) = (14 : Int32) → (((M.1 8 (((y4 + (-1 : Int32)) - (1 : Int32))).toNatClampNeg) ≤ (M.1 8 ((y4 + (-1 : Int32))).toNatClampNeg) → w_X12_holdsLine_229 E D post px y2 y3 (y4 + (-1 : Int32)) y5 y6 (M.1 1 (((421 : Int32) + ((2 : Int32) * y6))).toNatClampNeg) (M.1 8 (((y4 + (-1 : Int32)) - (1 : Int32))).toNatClampNeg) (M.1 8 ((y4 + (-1 : Int32))).toNatClampNeg) (0 : Int32) M) ∧ (¬ (M.1 8 (((y4 + (-1 : Int32)) - (1 : Int32))).toNatClampNeg) ≤ (M.1 8 ((y4 + (-1 : Int32))).toNatClampNeg) → w_X12_holdsLine_229 E D post px y2 y3 (y4 + (-1 : Int32)) y5 y6 (M.1 1 (((421 : Int32) + ((2 : Int32) * y6))).toNatClampNeg) (M.1 8 (((y4 + (-1 : Int32)) - (1 : Int32))).toNatClampNeg) (M.1 8 ((y4 + (-1 : Int32))).toNatClampNeg) (1 : Int32) M))))) ∧ ((M.1 1 (((421 : Int32) + ((2 : Int32) * y6))).toNatClampNeg) = (13 : Int32) → (((M.1 8 ((y4 + (-1 : Int32))).toNatClampNeg) ≤ (M.1 8 (((y4 + (-1 : Int32)) - (1 : Int32))).toNatClampNeg) → w_X12_holdsLine_229 E D post px y2 y3 (y4 + (-1 : Int32)) y5 y6 (M.1 1 (((421 : Int32) + ((2 : Int32) * y6))).toNatClampNeg) (M.1 8 (((y4 + (-1 : Int32)) - (1 : Int32))).toNatClampNeg) (M.1 8 ((y4 + (-1 : Int32))).toNatClampNeg) (0 : Int32) M) ∧ (¬ (M.1 8 ((y4 + (-1 : Int32))).toNatClampNeg) ≤ (M.1 8 (((y4 + (-1 : Int32)) - (1 : Int32))).toNatClampNeg) → w_X12_holdsLine_229 E D post px y2 y3 (y4 + (-1 : Int32)) y5 y6 (M.1 1 (((421 : Int32) + ((2 : Int32) * y6))).toNatClampNeg) (M.1 8 (((y4 + (-1 : Int32)) - (1 : Int32))).toNatClampNeg) (M.1 8 ((y4 + (-1 : Int32))).toNatClampNeg) (1 : Int32) M))))) ∧ ((M.1 1 (((421 : Int32) + ((2 : Int32) * y6))).toNatClampNeg) = (15 : Int32) → vp_in (y4 - (1 : Int32)) 400 ∧ vp_in (y4 - (1 : Int32)) 400 ∧ ∀ M49 : zM, M49 = zup M 8 ((y4 - (1 : Int32))).toNatClampNeg ((1 : Int32) - (M.1 8 ((y4 - (1 : Int32))).toNatClampNeg)) → w_X12_holdsLine_265 E D post px y2 y3 y4 y5 y6 M49))) ∧ (¬ (11 : Int32) < (M.1 1 (((421 : Int32) + ((2 : Int32) * y6))).toNatClampNeg) → vp_in (((421 : Int32) + ((2 : Int32) * y6)) + (1 : Int32)) 2070 ∧ zCi E jX12_factOf D 0 [.ref 0, .int (M.1 1 (((421 : Int32) + ((2 : Int32) * y6))).toNatClampNeg), .int (M.1 1 ((((421 : Int32) + ((2 : Int32) * y6)) + (1 : Int32))).toNatClampNeg), .int y2, .int y3] M (fun r55 M53 => vp_in y4 400 ∧ ∀ M58 : zM, M58 = zup M53 8 (y4).toNatClampNeg r55 → w_X12_holdsLine_265 E D post px y2 y3 (y4 + (1 : Int32)) y5 y6 M58) px))))) : w_X12_holdsLine_23 E D post px y2 y3 y4 y5 y6 M := by
  show Z E jX12_holdsLine (D + 1) 0 (zQi post px) 23 0 [.ref 0, zU, .int y2, .int y3, .int y4, .int y5, .int y6, zU, zU, zU, zU] [] M
  refine z_iload dX12_holdsLine_23 rfl ?_
  refine z_aload_n dX12_holdsLine_25 rfl ?_
  refine z_getR dX12_holdsLine_26 zg_X12_13 zs_0 rfl ?_
  refine z_iload dX12_holdsLine_29 rfl ?_
  refine z_iconst (v := (3 : Int32)) dX12_holdsLine_31 rfl ?_
  refine z_iadd dX12_holdsLine_32 ?_
  obtain ⟨g2, h1⟩ := h
  refine z_iald dX12_holdsLine_33 zs_1 g2 ?_
  refine z_icmp_ge (tgt := 271) dX12_holdsLine_34 (by decide) (fun g3 => ?_) (fun g3 => ?_)
  · have h4 := h1.1 g3
    refine z_iload dX12_holdsLine_271 rfl ?_
    refine z_if_eq (tgt := 286) dX12_holdsLine_273 (by decide) (fun g6 => ?_) (fun g6 => ?_)
    · have h7 := h4.1 g6
      refine z_weak [false, false, false, false, false, false, false, false, false, false, false] (ls' := [zU, zU, zU, zU, zU, zU, zU, zU, zU, zU, zU]) rfl rfl ?_
      exact h7
    · have h8 := h4.2 g6
      refine z_aload_n dX12_holdsLine_276 rfl ?_
      refine z_getR dX12_holdsLine_277 zg_X12_39 zs_0 rfl ?_
      refine z_iconst (v := (0 : Int32)) dX12_holdsLine_280 rfl ?_
      refine z_iald dX12_holdsLine_281 zs_8 (by unfold vp_in; decide) ?_
      refine z_iconst (v := (1 : Int32)) dX12_holdsLine_282 rfl ?_
      refine z_icmp_ne (tgt := 290) dX12_holdsLine_283 (by decide) (fun g9 => ?_) (fun g9 => ?_)
      · have h10 := h8.1 g9
        refine z_iconst (v := (0 : Int32)) dX12_holdsLine_290 rfl ?_
        refine z_weak [false, false, false, false, false, false, false, false, false, false, false] (ls' := [zU, zU, zU, zU, zU, zU, zU, zU, zU, zU, zU]) rfl rfl ?_
        exact h10
      · have h11 := h8.2 g9
        refine z_weak [false, false, false, false, false, false, false, false, false, false, false] (ls' := [zU, zU, zU, zU, zU, zU, zU, zU, zU, zU, zU]) rfl rfl ?_
        exact h11
  · have h5 := h1.2 g3
    refine z_aload_n dX12_holdsLine_37 rfl ?_
    refine z_getR dX12_holdsLine_38 zg_X12_13 zs_0 rfl ?_
    refine z_sipush (v := (421 : Int32)) dX12_holdsLine_41 rfl ?_
    refine z_iconst (v := (2 : Int32)) dX12_holdsLine_44 rfl ?_
    refine z_iload dX12_holdsLine_45 rfl ?_
    refine z_imul dX12_holdsLine_47 ?_
    refine z_iadd dX12_holdsLine_48 ?_
    obtain ⟨g13, h12⟩ := h5
    refine z_iald dX12_holdsLine_49 zs_1 g13 ?_
    refine z_istore dX12_holdsLine_50 (by decide) (ls' := [.ref 0, zU, .int y2, .int y3, .int y4, .int y5, .int y6, .int (M.1 1 (((421 : Int32) + ((2 : Int32) * y6))).toNatClampNeg), zU, zU, zU]) rfl ?_
    refine z_iload dX12_holdsLine_52 rfl ?_
    refine z_bipush (v := (11 : Int32)) dX12_holdsLine_54 rfl ?_
    refine z_icmp_gt (tgt := 95) dX12_holdsLine_56 (by decide) (fun g14 => ?_) (fun g14 => ?_)
    · have h15 := h12.1 g14
      refine z_iload dX12_holdsLine_95 rfl ?_
      refine z_bipush (v := (15 : Int32)) dX12_holdsLine_97 rfl ?_
      refine z_icmp_ne (tgt := 125) dX12_holdsLine_99 (by decide) (fun g17 => ?_) (fun g17 => ?_)
      · have h18 := h15.1 g17
        refine z_iinc dX12_holdsLine_125 rfl (by decide) (ls' := [.ref 0, zU, .int y2, .int y3, .int (y4 + (-1 : Int32)), .int y5, .int y6, .int (M.1 1 (((421 : Int32) + ((2 : Int32) * y6))).toNatClampNeg), zU, zU, zU]) rfl ?_
        refine z_aload_n dX12_holdsLine_128 rfl ?_
        refine z_getR dX12_holdsLine_129 zg_X12_39 zs_0 rfl ?_
        refine z_iload dX12_holdsLine_132 rfl ?_
        refine z_iconst (v := (1 : Int32)) dX12_holdsLine_134 rfl ?_
        refine z_isub dX12_holdsLine_135 ?_
        obtain ⟨g21, h20⟩ := h18
        refine z_iald dX12_holdsLine_136 zs_8 g21 ?_
        refine z_istore dX12_holdsLine_137 (by decide) (ls' := [.ref 0, zU, .int y2, .int y3, .int (y4 + (-1 : Int32)), .int y5, .int y6, .int (M.1 1 (((421 : Int32) + ((2 : Int32) * y6))).toNatClampNeg), .int (M.1 8 (((y4 + (-1 : Int32)) - (1 : Int32))).toNatClampNeg), zU, zU]) rfl ?_
        refine z_aload_n dX12_holdsLine_139 rfl ?_
        refine z_getR dX12_holdsLine_140 zg_X12_39 zs_0 rfl ?_
        refine z_iload dX12_holdsLine_143 rfl ?_
        obtain ⟨g23, h22⟩ := h20
        refine z_iald dX12_holdsLine_145 zs_8 g23 ?_
        refine z_istore dX12_holdsLine_146 (by decide) (ls' := [.ref 0, zU, .int y2, .int y3, .int (y4 + (-1 : Int32)), .int y5, .int y6, .int (M.1 1 (((421 : Int32) + ((2 : Int32) * y6))).toNatClampNeg), .int (M.1 8 (((y4 + (-1 : Int32)) - (1 : Int32))).toNatClampNeg), .int (M.1 8 ((y4 + (-1 : Int32))).toNatClampNeg), zU]) rfl ?_
        refine z_iload dX12_holdsLine_148 rfl ?_
        refine z_bipush (v := (13 : Int32)) dX12_holdsLine_150 rfl ?_
        refine z_icmp_ne (tgt := 170) dX12_holdsLine_152 (by decide) (fun g24 => ?_) (fun g24 => ?_)
        · have h25 := h22.1 g24
          refine z_iload dX12_holdsLine_170 rfl ?_
          refine z_bipush (v := (14 : Int32)) dX12_holdsLine_172 rfl ?_
          refine z_icmp_ne (tgt := 192) dX12_holdsLine_174 (by decide) (fun g27 => ?_) (fun g27 => ?_)
          · have h28 := h25.1 g27
            refine z_iload dX12_holdsLine_192 rfl ?_
            refine z_bipush (v := (16 : Int32)) dX12_holdsLine_194 rfl ?_
            refine z_icmp_ne (tgt := 216) dX12_holdsLine_196 (by decide) (fun g30 => ?_) (fun g30 => ?_)
            · have h31 := h28.1 g30
              refine z_iload dX12_holdsLine_216 rfl ?_
              refine z_iload dX12_holdsLine_218 rfl ?_
              refine z_iadd dX12_holdsLine_220 ?_
              refine z_if_le (tgt := 228) dX12_holdsLine_221 (by decide) (fun g33 => ?_) (fun g33 => ?_)
              · have h34 := h31.1 g33
                refine z_iconst (v := (0 : Int32)) dX12_holdsLine_228 rfl ?_
                exact h34
              · have h35 := h31.2 g33
                refine z_iconst (v := (1 : Int32)) dX12_holdsLine_224 rfl ?_
                refine z_goto (tgt := 229) dX12_holdsLine_225 (by decide) ?_
                exact h35
            · have h32 := h28.2 g30
              refine z_iload dX12_holdsLine_199 rfl ?_
              refine z_iload dX12_holdsLine_201 rfl ?_
              refine z_iadd dX12_holdsLine_203 ?_
              refine z_iconst (v := (2 : Int32)) dX12_holdsLine_204 rfl ?_
              refine z_icmp_ne (tgt := 212) dX12_holdsLine_205 (by decide) (fun g36 => ?_) (fun g36 => ?_)
              · have h37 := h32.1 g36
                refine z_iconst (v := (0 : Int32)) dX12_holdsLine_212 rfl ?_
                refine z_goto (tgt := 229) dX12_holdsLine_213 (by decide) ?_
                exact h37
              · have h38 := h32.2 g36
                refine z_iconst (v := (1 : Int32)) dX12_holdsLine_208 rfl ?_
                refine z_goto (tgt := 229) dX12_holdsLine_209 (by decide) ?_
                exact h38
          · have h29 := h25.2 g27
            refine z_iload dX12_holdsLine_177 rfl ?_
            refine z_iload dX12_holdsLine_179 rfl ?_
            refine z_icmp_le (tgt := 188) dX12_holdsLine_181 (by decide) (fun g39 => ?_) (fun g39 => ?_)
            · have h40 := h29.1 g39
              refine z_iconst (v := (0 : Int32)) dX12_holdsLine_188 rfl ?_
              refine z_goto (tgt := 229) dX12_holdsLine_189 (by decide) ?_
              exact h40
            · have h41 := h29.2 g39
              refine z_iconst (v := (1 : Int32)) dX12_holdsLine_184 rfl ?_
              refine z_goto (tgt := 229) dX12_holdsLine_185 (by decide) ?_
              exact h41
        · have h26 := h22.2 g24
          refine z_iload dX12_holdsLine_155 rfl ?_
          refine z_iload dX12_holdsLine_157 rfl ?_
          refine z_icmp_ge (tgt := 166) dX12_holdsLine_159 (by decide) (fun g42 => ?_) (fun g42 => ?_)
          · have h43 := h26.1 g42
            refine z_iconst (v := (0 : Int32)) dX12_holdsLine_166 rfl ?_
            refine z_goto (tgt := 229) dX12_holdsLine_167 (by decide) ?_
            exact h43
          · have h44 := h26.2 g42
            refine z_iconst (v := (1 : Int32)) dX12_holdsLine_162 rfl ?_
            refine z_goto (tgt := 229) dX12_holdsLine_163 (by decide) ?_
            exact h44
      · have h19 := h15.2 g17
        refine z_aload_n dX12_holdsLine_102 rfl ?_
        refine z_getR dX12_holdsLine_103 zg_X12_39 zs_0 rfl ?_
        refine z_iload dX12_holdsLine_106 rfl ?_
        refine z_iconst (v := (1 : Int32)) dX12_holdsLine_108 rfl ?_
        refine z_isub dX12_holdsLine_109 ?_
        refine z_iconst (v := (1 : Int32)) dX12_holdsLine_110 rfl ?_
        refine z_aload_n dX12_holdsLine_111 rfl ?_
        refine z_getR dX12_holdsLine_112 zg_X12_39 zs_0 rfl ?_
        refine z_iload dX12_holdsLine_115 rfl ?_
        refine z_iconst (v := (1 : Int32)) dX12_holdsLine_117 rfl ?_
        refine z_isub dX12_holdsLine_118 ?_
        obtain ⟨g46, h45⟩ := h19
        refine z_iald dX12_holdsLine_119 zs_8 g46 ?_
        refine z_isub dX12_holdsLine_120 ?_
        obtain ⟨g48, h47⟩ := h45
        refine z_iast dX12_holdsLine_121 zs_8 g48 ?_
        generalize hhM49 : zup M 8 ((y4 - (1 : Int32))).toNatClampNeg ((1 : Int32) - (M.1 8 ((y4 - (1 : Int32))).toNatClampNeg)) = M49
        have h50 := h47 M49 hhM49.symm
        refine z_goto (tgt := 265) dX12_holdsLine_122 (by decide) ?_
        refine z_weak [true, false, true, true, true, true, true, false, false, false, false] (ls' := [.ref 0, zU, .int y2, .int y3, .int y4, .int y5, .int y6, zU, zU, zU, zU]) rfl rfl ?_
        exact h50
    · have h16 := h12.2 g14
      refine z_aload_n dX12_holdsLine_59 rfl ?_
      refine z_getR dX12_holdsLine_60 zg_X12_39 zs_0 rfl ?_
      refine z_iload dX12_holdsLine_63 rfl ?_
      refine z_aload_n dX12_holdsLine_65 rfl ?_
      refine z_iload dX12_holdsLine_66 rfl ?_
      refine z_aload_n dX12_holdsLine_68 rfl ?_
      refine z_getR dX12_holdsLine_69 zg_X12_13 zs_0 rfl ?_
      refine z_sipush (v := (421 : Int32)) dX12_holdsLine_72 rfl ?_
      refine z_iconst (v := (2 : Int32)) dX12_holdsLine_75 rfl ?_
      refine z_iload dX12_holdsLine_76 rfl ?_
      refine z_imul dX12_holdsLine_78 ?_
      refine z_iadd dX12_holdsLine_79 ?_
      refine z_iconst (v := (1 : Int32)) dX12_holdsLine_80 rfl ?_
      refine z_iadd dX12_holdsLine_81 ?_
      obtain ⟨g52, h51⟩ := h16
      refine z_iald dX12_holdsLine_82 zs_1 g52 ?_
      refine z_iload_n dX12_holdsLine_83 rfl ?_
      refine z_iload_n dX12_holdsLine_84 rfl ?_
      refine z_callVi (As := [.int (M.1 1 (((421 : Int32) + ((2 : Int32) * y6))).toNatClampNeg), .int (M.1 1 ((((421 : Int32) + ((2 : Int32) * y6)) + (1 : Int32))).toNatClampNeg), .int y2, .int y3]) (st := [.int y4, .ref 8]) dX12_holdsLine_85 zi_X12_294 rfl rfl zs_0 rfl rfl (Nat.le_of_ble_eq_true rfl) (by decide) (fun _ _ hx => hx) h51 ?_
      intro r55 M53 h54
      obtain ⟨g57, h56⟩ := h54
      refine z_iast dX12_holdsLine_88 zs_8 g57 ?_
      generalize hhM58 : zup M53 8 (y4).toNatClampNeg r55 = M58
      have h59 := h56 M58 hhM58.symm
      refine z_iinc dX12_holdsLine_89 rfl (by decide) (ls' := [.ref 0, zU, .int y2, .int y3, .int (y4 + (1 : Int32)), .int y5, .int y6, .int (M.1 1 (((421 : Int32) + ((2 : Int32) * y6))).toNatClampNeg), zU, zU, zU]) rfl ?_
      refine z_goto (tgt := 265) dX12_holdsLine_92 (by decide) ?_
      refine z_weak [true, false, true, true, true, true, true, false, false, false, false] (ls' := [.ref 0, zU, .int y2, .int y3, .int (y4 + (1 : Int32)), .int y5, .int y6, zU, zU, zU, zU]) rfl rfl ?_
      exact h59
theorem t_X12_holdsLine_286 {E : zEv} {D : Nat} {post : Int32 → zM → Prop} {px : String → zM → Prop} {M : zM}    (h : w_X12_holdsLine_291 E D post px (1 : Int32) M) : w_X12_holdsLine_286 E D post px  M := by
  show Z E jX12_holdsLine (D + 1) 0 (zQi post px) 286 0 [zU, zU, zU, zU, zU, zU, zU, zU, zU, zU, zU] [] M
  refine z_iconst (v := (1 : Int32)) dX12_holdsLine_286 rfl ?_
  refine z_goto (tgt := 291) dX12_holdsLine_287 (by decide) ?_
  exact h
theorem t_X12_holdsLine_291 {E : zEv} {D : Nat} {post : Int32 → zM → Prop} {px : String → zM → Prop} {M : zM}   {s0 : Int32} (h : (s0 = 0 ∨ s0 = 1) ∧ post s0 M) : w_X12_holdsLine_291 E D post px s0 M := by
  show Z E jX12_holdsLine (D + 1) 0 (zQi post px) 291 0 [zU, zU, zU, zU, zU, zU, zU, zU, zU, zU, zU] [.int s0] M
  obtain ⟨g2, h1⟩ := h
  exact z_iret dX12_holdsLine_291 rfl (zbool g2) (by decide) h1
theorem t_X12_holdsLine_229 {E : zEv} {D : Nat} {post : Int32 → zM → Prop} {px : String → zM → Prop} {M : zM}   {y2 : Int32} {y3 : Int32} {y4 : Int32} {y5 : Int32} {y6 : Int32} {y7 : Int32} {y8 : Int32} {y9 : Int32} {s0 : Int32} (h : ((¬ y7 = (12 : Int32) → ((s0 = 0 → w_X12_holdsLine_264 E D post px y2 y3 y4 y5 y6 (0 : Int32) (y4 - (1 : Int32)) M) ∧ (¬ s0 = 0 → w_X12_holdsLine_264 E D post px y2 y3 y4 y5 y6 (1 : Int32) (y4 - (1 : Int32)) M))) ∧ (y7 = (12 : Int32) → w_X12_holdsLine_264 E D post px y2 y3 y4 y5 y6 (y8 + y9) (y4 - (1 : Int32)) M))) : w_X12_holdsLine_229 E D post px y2 y3 y4 y5 y6 y7 y8 y9 s0 M := by
  show Z E jX12_holdsLine (D + 1) 0 (zQi post px) 229 0 [.ref 0, zU, .int y2, .int y3, .int y4, .int y5, .int y6, .int y7, .int y8, .int y9, zU] [.int s0] M
  refine z_istore dX12_holdsLine_229 (by decide) (ls' := [.ref 0, zU, .int y2, .int y3, .int y4, .int y5, .int y6, .int y7, .int y8, .int y9, .int s0]) rfl ?_
  refine z_aload_n dX12_holdsLine_231 rfl ?_
  refine z_getR dX12_holdsLine_232 zg_X12_39 zs_0 rfl ?_
  refine z_iload dX12_holdsLine_235 rfl ?_
  refine z_iconst (v := (1 : Int32)) dX12_holdsLine_237 rfl ?_
  refine z_isub dX12_holdsLine_238 ?_
  refine z_iload dX12_holdsLine_239 rfl ?_
  refine z_bipush (v := (12 : Int32)) dX12_holdsLine_241 rfl ?_
  refine z_icmp_ne (tgt := 254) dX12_holdsLine_243 (by decide) (fun g1 => ?_) (fun g1 => ?_)
  · have h2 := h.1 g1
    refine z_iload dX12_holdsLine_254 rfl ?_
    refine z_if_eq (tgt := 263) dX12_holdsLine_256 (by decide) (fun g4 => ?_) (fun g4 => ?_)
    · have h5 := h2.1 g4
      refine z_iconst (v := (0 : Int32)) dX12_holdsLine_263 rfl ?_
      refine z_weak [true, false, true, true, true, true, true, false, false, false, false] (ls' := [.ref 0, zU, .int y2, .int y3, .int y4, .int y5, .int y6, zU, zU, zU, zU]) rfl rfl ?_
      exact h5
    · have h6 := h2.2 g4
      refine z_iconst (v := (1 : Int32)) dX12_holdsLine_259 rfl ?_
      refine z_goto (tgt := 264) dX12_holdsLine_260 (by decide) ?_
      refine z_weak [true, false, true, true, true, true, true, false, false, false, false] (ls' := [.ref 0, zU, .int y2, .int y3, .int y4, .int y5, .int y6, zU, zU, zU, zU]) rfl rfl ?_
      exact h6
  · have h3 := h.2 g1
    refine z_iload dX12_holdsLine_246 rfl ?_
    refine z_iload dX12_holdsLine_248 rfl ?_
    refine z_iadd dX12_holdsLine_250 ?_
    refine z_goto (tgt := 264) dX12_holdsLine_251 (by decide) ?_
    refine z_weak [true, false, true, true, true, true, true, false, false, false, false] (ls' := [.ref 0, zU, .int y2, .int y3, .int y4, .int y5, .int y6, zU, zU, zU, zU]) rfl rfl ?_
    exact h3
theorem t_X12_holdsLine_265 {E : zEv} {D : Nat} {post : Int32 → zM → Prop} {px : String → zM → Prop} {M : zM}   {y2 : Int32} {y3 : Int32} {y4 : Int32} {y5 : Int32} {y6 : Int32} (h : w_X12_holdsLine_23 E D post px y2 y3 y4 y5 (y6 + (1 : Int32)) M) : w_X12_holdsLine_265 E D post px y2 y3 y4 y5 y6 M := by
  show Z E jX12_holdsLine (D + 1) 0 (zQi post px) 265 0 [.ref 0, zU, .int y2, .int y3, .int y4, .int y5, .int y6, zU, zU, zU, zU] [] M
  refine z_iinc dX12_holdsLine_265 rfl (by decide) (ls' := [.ref 0, zU, .int y2, .int y3, .int y4, .int y5, .int (y6 + (1 : Int32)), zU, zU, zU, zU]) rfl ?_
  refine z_goto (tgt := 23) dX12_holdsLine_268 (by decide) ?_
  exact h
theorem t_X12_holdsLine_264 {E : zEv} {D : Nat} {post : Int32 → zM → Prop} {px : String → zM → Prop} {M : zM}   {y2 : Int32} {y3 : Int32} {y4 : Int32} {y5 : Int32} {y6 : Int32} {s0 : Int32} {s1 : Int32} (h : vp_in s1 400 ∧ ∀ M3 : zM, M3 = zup M 8 (s1).toNatClampNeg s0 → w_X12_holdsLine_265 E D post px y2 y3 y4 y5 y6 M3) : w_X12_holdsLine_264 E D post px y2 y3 y4 y5 y6 s0 s1 M := by
  show Z E jX12_holdsLine (D + 1) 0 (zQi post px) 264 0 [.ref 0, zU, .int y2, .int y3, .int y4, .int y5, .int y6, zU, zU, zU, zU] [.int s0, .int s1, .ref 8] M
  obtain ⟨g2, h1⟩ := h
  refine z_iast dX12_holdsLine_264 zs_8 g2 ?_
  generalize hhM3 : zup M 8 (s1).toNatClampNeg s0 = M3
  have h4 := h1 M3 hhM3.symm
  exact h4
def w_X12_sumOf_6 (E : zEv) (D : Nat) (post : Int32 → zM → Prop) (px : String → zM → Prop)  (y1 : Int32) (y2 : Int32) (y3 : Int32) (y4 : Int32) (y5 : Int32) (M : zM) : Prop := Z E jX12_sumOf (D + 1) 0 (zQi post px) 6 0 [.ref 0, .int y1, .int y2, .int y3, .int y4, .int y5] [] M
def w_X12_sumOf_83 (E : zEv) (D : Nat) (post : Int32 → zM → Prop) (px : String → zM → Prop)  (y4 : Int32) (M : zM) : Prop := Z E jX12_sumOf (D + 1) 0 (zQi post px) 83 0 [zU, zU, zU, zU, .int y4, zU] [] M
def w_X12_sumOf_77 (E : zEv) (D : Nat) (post : Int32 → zM → Prop) (px : String → zM → Prop)  (y1 : Int32) (y2 : Int32) (y3 : Int32) (y4 : Int32) (y5 : Int32) (M : zM) : Prop := Z E jX12_sumOf (D + 1) 0 (zQi post px) 77 0 [.ref 0, .int y1, .int y2, .int y3, .int y4, .int y5] [] M
theorem e_X12_sumOf {E : zEv} {D : Nat} {post : Int32 → zM → Prop} {px : String → zM → Prop} {M : zM} {x1 : Int32} {x2 : Int32} {x3 : Int32}  (h : w_X12_sumOf_6 E D post px x1 x2 x3 (0 : Int32) (0 : Int32) M) : zCi E jX12_sumOf (D + 1) 0 [.ref 0, .int x1, .int x2, .int x3] M post px := by
  refine z_meth (by decide) (Nat.le_of_ble_eq_true rfl) ?_
  show Z E jX12_sumOf (D + 1) 0 (zQi post px) 0 0 [.ref 0, .int x1, .int x2, .int x3, zU, zU] [] M
  refine z_iconst (v := (0 : Int32)) dX12_sumOf_0 rfl ?_
  refine z_istore dX12_sumOf_1 (by decide) (ls' := [.ref 0, .int x1, .int x2, .int x3, .int (0 : Int32), zU]) rfl ?_
  refine z_iconst (v := (0 : Int32)) dX12_sumOf_3 rfl ?_
  refine z_istore dX12_sumOf_4 (by decide) (ls' := [.ref 0, .int x1, .int x2, .int x3, .int (0 : Int32), .int (0 : Int32)]) rfl ?_
  exact h
theorem t_X12_sumOf_6 {E : zEv} {D : Nat} {post : Int32 → zM → Prop} {px : String → zM → Prop} {M : zM}   {y1 : Int32} {y2 : Int32} {y3 : Int32} {y4 : Int32} {y5 : Int32} (h : ((¬ (M.1 1 ((5 : Int32)).toNatClampNeg) = (1 : Int32) → w_X12_sumOf_83 E D post px y4 M) ∧ ((M.1 1 ((5 : Int32)).toNatClampNeg) = (1 : Int32) → (((M.1 1 ((372 : Int32)).toNatClampNeg) ≤ y5 → w_X12_sumOf_83 E D post px y4 M) ∧ (¬ (M.1 1 ((372 : Int32)).toNatClampNeg) ≤ y5 → vp_in ((373 : Int32) + ((4 : Int32) * y5)) 2070 ∧ ((¬ (M.1 1 (((373 : Int32) + ((4 : Int32) * y5))).toNatClampNeg) = y1 → w_X12_sumOf_77 E D post px y1 y2 y3 y4 y5 M) ∧ ((M.1 1 (((373 : Int32) + ((4 : Int32) * y5))).toNatClampNeg) = y1 → zCi E jX12_holdsLine D 0 [.ref 0, .int y5, .int y2, .int y3] M (fun r14 M12 => ((r14 = 0 → w_X12_sumOf_77 E D post px y1 y2 y3 y4 y5 M12) ∧ (¬ r14 = 0 → vp_in (((373 : Int32) + ((4 : Int32) * y5)) + (1 : Int32)) 2070 ∧ w_X12_sumOf_77 E D post px y1 y2 y3 (y4 + (M12.1 1 ((((373 : Int32) + ((4 : Int32) * y5)) + (1 : Int32))).toNatClampNeg)) y5 M12))) px))))))) : w_X12_sumOf_6 E D post px y1 y2 y3 y4 y5 M := by
  show Z E jX12_sumOf (D + 1) 0 (zQi post px) 6 0 [.ref 0, .int y1, .int y2, .int y3, .int y4, .int y5] [] M
  refine z_aload_n dX12_sumOf_6 rfl ?_
  refine z_getR dX12_sumOf_7 zg_X12_13 zs_0 rfl ?_
  refine z_iconst (v := (5 : Int32)) dX12_sumOf_10 rfl ?_
  refine z_iald dX12_sumOf_11 zs_1 (by unfold vp_in; decide) ?_
  refine z_iconst (v := (1 : Int32)) dX12_sumOf_12 rfl ?_
  refine z_icmp_ne (tgt := 83) dX12_sumOf_13 (by decide) (fun g1 => ?_) (fun g1 => ?_)
  · have h2 := h.1 g1
    refine z_weak [false, false, false, false, true, false] (ls' := [zU, zU, zU, zU, .int y4, zU]) rfl rfl ?_
    exact h2
  · have h3 := h.2 g1
    refine z_iload dX12_sumOf_16 rfl ?_
    refine z_aload_n dX12_sumOf_18 rfl ?_
    refine z_getR dX12_sumOf_19 zg_X12_13 zs_0 rfl ?_
    refine z_sipush (v := (372 : Int32)) dX12_sumOf_22 rfl ?_
    refine z_iald dX12_sumOf_25 zs_1 (by unfold vp_in; decide) ?_
    refine z_icmp_ge (tgt := 83) dX12_sumOf_26 (by decide) (fun g4 => ?_) (fun g4 => ?_)
    · have h5 := h3.1 g4
      refine z_weak [false, false, false, false, true, false] (ls' := [zU, zU, zU, zU, .int y4, zU]) rfl rfl ?_
      exact h5
    · have h6 := h3.2 g4
      refine z_aload_n dX12_sumOf_29 rfl ?_
      refine z_getR dX12_sumOf_30 zg_X12_13 zs_0 rfl ?_
      refine z_sipush (v := (373 : Int32)) dX12_sumOf_33 rfl ?_
      refine z_iconst (v := (4 : Int32)) dX12_sumOf_36 rfl ?_
      refine z_iload dX12_sumOf_37 rfl ?_
      refine z_imul dX12_sumOf_39 ?_
      refine z_iadd dX12_sumOf_40 ?_
      obtain ⟨g8, h7⟩ := h6
      refine z_iald dX12_sumOf_41 zs_1 g8 ?_
      refine z_iload_n dX12_sumOf_42 rfl ?_
      refine z_icmp_ne (tgt := 77) dX12_sumOf_43 (by decide) (fun g9 => ?_) (fun g9 => ?_)
      · have h10 := h7.1 g9
        exact h10
      · have h11 := h7.2 g9
        refine z_aload_n dX12_sumOf_46 rfl ?_
        refine z_iload dX12_sumOf_47 rfl ?_
        refine z_iload_n dX12_sumOf_49 rfl ?_
        refine z_iload_n dX12_sumOf_50 rfl ?_
        refine z_callVi (As := [.int y5, .int y2, .int y3]) (st := []) dX12_sumOf_51 zi_X12_298 rfl rfl zs_0 rfl rfl (Nat.le_of_ble_eq_true rfl) (by decide) (fun _ _ hx => hx) h11 ?_
        intro r14 M12 h13
        refine z_if_eq (tgt := 77) dX12_sumOf_54 (by decide) (fun g15 => ?_) (fun g15 => ?_)
        · have h16 := h13.1 g15
          exact h16
        · have h17 := h13.2 g15
          refine z_iload dX12_sumOf_57 rfl ?_
          refine z_aload_n dX12_sumOf_59 rfl ?_
          refine z_getR dX12_sumOf_60 zg_X12_13 zs_0 rfl ?_
          refine z_sipush (v := (373 : Int32)) dX12_sumOf_63 rfl ?_
          refine z_iconst (v := (4 : Int32)) dX12_sumOf_66 rfl ?_
          refine z_iload dX12_sumOf_67 rfl ?_
          refine z_imul dX12_sumOf_69 ?_
          refine z_iadd dX12_sumOf_70 ?_
          refine z_iconst (v := (1 : Int32)) dX12_sumOf_71 rfl ?_
          refine z_iadd dX12_sumOf_72 ?_
          obtain ⟨g19, h18⟩ := h17
          refine z_iald dX12_sumOf_73 zs_1 g19 ?_
          refine z_iadd dX12_sumOf_74 ?_
          refine z_istore dX12_sumOf_75 (by decide) (ls' := [.ref 0, .int y1, .int y2, .int y3, .int (y4 + (M12.1 1 ((((373 : Int32) + ((4 : Int32) * y5)) + (1 : Int32))).toNatClampNeg)), .int y5]) rfl ?_
          exact h18
theorem t_X12_sumOf_83 {E : zEv} {D : Nat} {post : Int32 → zM → Prop} {px : String → zM → Prop} {M : zM}   {y4 : Int32} (h : post y4 M) : w_X12_sumOf_83 E D post px y4 M := by
  show Z E jX12_sumOf (D + 1) 0 (zQi post px) 83 0 [zU, zU, zU, zU, .int y4, zU] [] M
  refine z_iload dX12_sumOf_83 rfl ?_
  exact z_iret dX12_sumOf_85 rfl rfl (by decide) h
theorem t_X12_sumOf_77 {E : zEv} {D : Nat} {post : Int32 → zM → Prop} {px : String → zM → Prop} {M : zM}   {y1 : Int32} {y2 : Int32} {y3 : Int32} {y4 : Int32} {y5 : Int32} (h : w_X12_sumOf_6 E D post px y1 y2 y3 y4 (y5 + (1 : Int32)) M) : w_X12_sumOf_77 E D post px y1 y2 y3 y4 y5 M := by
  show Z E jX12_sumOf (D + 1) 0 (zQi post px) 77 0 [.ref 0, .int y1, .int y2, .int y3, .int y4, .int y5] [] M
  refine z_iinc dX12_sumOf_77 rfl (by decide) (ls' := [.ref 0, .int y1, .int y2, .int y3, .int y4, .int (y5 + (1 : Int32))]) rfl ?_
  refine z_goto (tgt := 6) dX12_sumOf_80 (by decide) ?_
  exact h
def w_X12_ownOf_49 (E : zEv) (D : Nat) (post : Int32 → zM → Prop) (px : String → zM → Prop)  (s0 : Int32) (M : zM) : Prop := Z E jX12_ownOf (D + 1) 0 (zQi post px) 49 0 [zU, zU, zU, zU] [.int s0] M
theorem e_X12_ownOf {E : zEv} {D : Nat} {post : Int32 → zM → Prop} {px : String → zM → Prop} {M : zM} {x1 : Int32} {x2 : Int32}  (h : zCi E jX12_weightOn D 0 [.ref 0, .int x1, .int x2] M (fun r3 M1 => ((¬ r3 = 0 → zCi E jX12_of D 0 [.ref 0, .int x1, .int (0 : Int32)] M1 (fun r9 M7 => zCi E jX12_of D 0 [.ref 0, .int x1, .int (1 : Int32)] M7 (fun r12 M10 => zCi E jX12_sumOf D 0 [.ref 0, .int (0 : Int32), .int x1, .int x2] M10 (fun r15 M13 => zCi E jX12_of D 0 [.ref 0, .int x1, .int (2 : Int32)] M13 (fun r18 M16 => w_X12_ownOf_49 E D post px (zmax (0 : Int32) ((((r3 * r9) + r12) + r15) - r18)) M16) px) px) px) px) ∧ (r3 = 0 → w_X12_ownOf_49 E D post px (0 : Int32) M1))) px) : zCi E jX12_ownOf (D + 1) 0 [.ref 0, .int x1, .int x2] M post px := by
  refine z_meth (by decide) (Nat.le_of_ble_eq_true rfl) ?_
  show Z E jX12_ownOf (D + 1) 0 (zQi post px) 0 0 [.ref 0, .int x1, .int x2, zU] [] M
  refine z_aload_n dX12_ownOf_0 rfl ?_
  refine z_iload_n dX12_ownOf_1 rfl ?_
  refine z_iload_n dX12_ownOf_2 rfl ?_
  refine z_callVi (As := [.int x1, .int x2]) (st := []) dX12_ownOf_3 zi_X12_288 rfl rfl zs_0 rfl rfl (Nat.le_of_ble_eq_true rfl) (by decide) (fun _ _ hx => hx) h ?_
  intro r3 M1 h2
  refine z_istore_n dX12_ownOf_6 (by decide) (ls' := [.ref 0, .int x1, .int x2, .int r3]) rfl ?_
  refine z_iload_n dX12_ownOf_7 rfl ?_
  refine z_if_ne (tgt := 15) dX12_ownOf_8 (by decide) (fun g4 => ?_) (fun g4 => ?_)
  · have h5 := h2.1 g4
    refine z_iconst (v := (0 : Int32)) dX12_ownOf_15 rfl ?_
    refine z_iload_n dX12_ownOf_16 rfl ?_
    refine z_aload_n dX12_ownOf_17 rfl ?_
    refine z_iload_n dX12_ownOf_18 rfl ?_
    refine z_iconst (v := (0 : Int32)) dX12_ownOf_19 rfl ?_
    refine z_callVi (As := [.int x1, .int (0 : Int32)]) (st := [.int r3, .int (0 : Int32)]) dX12_ownOf_20 zi_X12_285 rfl rfl zs_0 rfl rfl (Nat.le_of_ble_eq_true rfl) (by decide) (fun _ _ hx => hx) h5 ?_
    intro r9 M7 h8
    refine z_imul dX12_ownOf_23 ?_
    refine z_aload_n dX12_ownOf_24 rfl ?_
    refine z_iload_n dX12_ownOf_25 rfl ?_
    refine z_iconst (v := (1 : Int32)) dX12_ownOf_26 rfl ?_
    refine z_callVi (As := [.int x1, .int (1 : Int32)]) (st := [.int (r3 * r9), .int (0 : Int32)]) dX12_ownOf_27 zi_X12_285 rfl rfl zs_0 rfl rfl (Nat.le_of_ble_eq_true rfl) (by decide) (fun _ _ hx => hx) h8 ?_
    intro r12 M10 h11
    refine z_iadd dX12_ownOf_30 ?_
    refine z_aload_n dX12_ownOf_31 rfl ?_
    refine z_iconst (v := (0 : Int32)) dX12_ownOf_32 rfl ?_
    refine z_iload_n dX12_ownOf_33 rfl ?_
    refine z_iload_n dX12_ownOf_34 rfl ?_
    refine z_callVi (As := [.int (0 : Int32), .int x1, .int x2]) (st := [.int ((r3 * r9) + r12), .int (0 : Int32)]) dX12_ownOf_35 zi_X12_301 rfl rfl zs_0 rfl rfl (Nat.le_of_ble_eq_true rfl) (by decide) (fun _ _ hx => hx) h11 ?_
    intro r15 M13 h14
    refine z_iadd dX12_ownOf_38 ?_
    refine z_aload_n dX12_ownOf_39 rfl ?_
    refine z_iload_n dX12_ownOf_40 rfl ?_
    refine z_iconst (v := (2 : Int32)) dX12_ownOf_41 rfl ?_
    refine z_callVi (As := [.int x1, .int (2 : Int32)]) (st := [.int (((r3 * r9) + r12) + r15), .int (0 : Int32)]) dX12_ownOf_42 zi_X12_285 rfl rfl zs_0 rfl rfl (Nat.le_of_ble_eq_true rfl) (by decide) (fun _ _ hx => hx) h14 ?_
    intro r18 M16 h17
    refine z_isub dX12_ownOf_45 ?_
    refine z_max dX12_ownOf_46 zm_X12_305 (Nat.le_of_ble_eq_true rfl) (by decide) ?_
    refine z_weak [false, false, false, false] (ls' := [zU, zU, zU, zU]) rfl rfl ?_
    exact h17
  · have h6 := h2.2 g4
    refine z_iconst (v := (0 : Int32)) dX12_ownOf_11 rfl ?_
    refine z_goto (tgt := 49) dX12_ownOf_12 (by decide) ?_
    refine z_weak [false, false, false, false] (ls' := [zU, zU, zU, zU]) rfl rfl ?_
    exact h6
theorem t_X12_ownOf_49 {E : zEv} {D : Nat} {post : Int32 → zM → Prop} {px : String → zM → Prop} {M : zM}   {s0 : Int32} (h : post s0 M) : w_X12_ownOf_49 E D post px s0 M := by
  show Z E jX12_ownOf (D + 1) 0 (zQi post px) 49 0 [zU, zU, zU, zU] [.int s0] M
  exact z_iret dX12_ownOf_49 rfl rfl (by decide) h
theorem e_X12_fallsBy {E : zEv} {D : Nat} {post : Int32 → zM → Prop} {px : String → zM → Prop} {M : zM} {x1 : Int32}  (h : zCi E jX12_sumOf D 0 [.ref 0, .int (1 : Int32), .int x1, .int (0 : Int32)] M (fun r3 M1 => post (((10 : Int32) - (M.1 1 ((7 : Int32)).toNatClampNeg)) + r3) M1) px) : zCi E jX12_fallsBy (D + 1) 0 [.ref 0, .int x1] M post px := by
  refine z_meth (by decide) (Nat.le_of_ble_eq_true rfl) ?_
  show Z E jX12_fallsBy (D + 1) 0 (zQi post px) 0 0 [.ref 0, .int x1] [] M
  refine z_bipush (v := (10 : Int32)) dX12_fallsBy_0 rfl ?_
  refine z_aload_n dX12_fallsBy_2 rfl ?_
  refine z_getR dX12_fallsBy_3 zg_X12_13 zs_0 rfl ?_
  refine z_bipush (v := (7 : Int32)) dX12_fallsBy_6 rfl ?_
  refine z_iald dX12_fallsBy_8 zs_1 (by unfold vp_in; decide) ?_
  refine z_isub dX12_fallsBy_9 ?_
  refine z_aload_n dX12_fallsBy_10 rfl ?_
  refine z_iconst (v := (1 : Int32)) dX12_fallsBy_11 rfl ?_
  refine z_iload_n dX12_fallsBy_12 rfl ?_
  refine z_iconst (v := (0 : Int32)) dX12_fallsBy_13 rfl ?_
  refine z_callVi (As := [.int (1 : Int32), .int x1, .int (0 : Int32)]) (st := [.int ((10 : Int32) - (M.1 1 ((7 : Int32)).toNatClampNeg))]) dX12_fallsBy_14 zi_X12_301 rfl rfl zs_0 rfl rfl (Nat.le_of_ble_eq_true rfl) (by decide) (fun _ _ hx => hx) h ?_
  intro r3 M1 h2
  refine z_iadd dX12_fallsBy_17 ?_
  exact z_iret dX12_fallsBy_18 rfl rfl (by decide) h2
def w_X12_passesOn_26 (E : zEv) (D : Nat) (post : Int32 → zM → Prop) (px : String → zM → Prop)  (s0 : Int32) (M : zM) : Prop := Z E jX12_passesOn (D + 1) 0 (zQi post px) 26 0 [zU, zU, zU] [.int s0] M
theorem e_X12_passesOn {E : zEv} {D : Nat} {post : Int32 → zM → Prop} {px : String → zM → Prop} {M : zM} {x1 : Int32} {x2 : Int32}  (h : ((¬ (M.1 1 ((5 : Int32)).toNatClampNeg) = 0 → zCi E jX12_sumOf D 0 [.ref 0, .int (2 : Int32), .int x1, .int x2] M (fun r6 M4 => w_X12_passesOn_26 E D post px (zmin (99 : Int32) r6) M4) px) ∧ ((M.1 1 ((5 : Int32)).toNatClampNeg) = 0 → w_X12_passesOn_26 E D post px (50 : Int32) M))) : zCi E jX12_passesOn (D + 1) 0 [.ref 0, .int x1, .int x2] M post px := by
  refine z_meth (by decide) (Nat.le_of_ble_eq_true rfl) ?_
  show Z E jX12_passesOn (D + 1) 0 (zQi post px) 0 0 [.ref 0, .int x1, .int x2] [] M
  refine z_aload_n dX12_passesOn_0 rfl ?_
  refine z_getR dX12_passesOn_1 zg_X12_13 zs_0 rfl ?_
  refine z_iconst (v := (5 : Int32)) dX12_passesOn_4 rfl ?_
  refine z_iald dX12_passesOn_5 zs_1 (by unfold vp_in; decide) ?_
  refine z_if_ne (tgt := 14) dX12_passesOn_6 (by decide) (fun g1 => ?_) (fun g1 => ?_)
  · have h2 := h.1 g1
    refine z_bipush (v := (99 : Int32)) dX12_passesOn_14 rfl ?_
    refine z_aload_n dX12_passesOn_16 rfl ?_
    refine z_iconst (v := (2 : Int32)) dX12_passesOn_17 rfl ?_
    refine z_iload_n dX12_passesOn_18 rfl ?_
    refine z_iload_n dX12_passesOn_19 rfl ?_
    refine z_callVi (As := [.int (2 : Int32), .int x1, .int x2]) (st := [.int (99 : Int32)]) dX12_passesOn_20 zi_X12_301 rfl rfl zs_0 rfl rfl (Nat.le_of_ble_eq_true rfl) (by decide) (fun _ _ hx => hx) h2 ?_
    intro r6 M4 h5
    refine z_min dX12_passesOn_23 zm_X12_310 (Nat.le_of_ble_eq_true rfl) (by decide) ?_
    refine z_weak [false, false, false] (ls' := [zU, zU, zU]) rfl rfl ?_
    exact h5
  · have h3 := h.2 g1
    refine z_bipush (v := (50 : Int32)) dX12_passesOn_9 rfl ?_
    refine z_goto (tgt := 26) dX12_passesOn_11 (by decide) ?_
    refine z_weak [false, false, false] (ls' := [zU, zU, zU]) rfl rfl ?_
    exact h3
theorem t_X12_passesOn_26 {E : zEv} {D : Nat} {post : Int32 → zM → Prop} {px : String → zM → Prop} {M : zM}   {s0 : Int32} (h : post s0 M) : w_X12_passesOn_26 E D post px s0 M := by
  show Z E jX12_passesOn (D + 1) 0 (zQi post px) 26 0 [zU, zU, zU] [.int s0] M
  exact z_iret dX12_passesOn_26 rfl rfl (by decide) h
def w_X12_lays_2 (E : zEv) (D : Nat) (post : zM → Prop) (px : String → zM → Prop)  (y1 : Int32) (y2 : Int32) (M : zM) : Prop := Z E jX12_lays (D + 1) 0 (zQv post px) 2 0 [.ref 0, .int y1, .int y2, zU, zU, zU] [] M
def w_X12_lays_30 (E : zEv) (D : Nat) (post : zM → Prop) (px : String → zM → Prop)  (y1 : Int32) (y2 : Int32) (M : zM) : Prop := Z E jX12_lays (D + 1) 0 (zQv post px) 30 0 [.ref 0, .int y1, .int y2, zU, zU, zU] [] M
def w_X12_lays_93 (E : zEv) (D : Nat) (post : zM → Prop) (px : String → zM → Prop)  (y1 : Int32) (y2 : Int32) (y4 : Int32) (y5 : Int32) (M : zM) : Prop := Z E jX12_lays (D + 1) 0 (zQv post px) 93 0 [.ref 0, .int y1, .int y2, zU, .int y4, .int y5] [] M
def w_X12_lays_126 (E : zEv) (D : Nat) (post : zM → Prop) (px : String → zM → Prop)  (y1 : Int32) (y2 : Int32) (M : zM) : Prop := Z E jX12_lays (D + 1) 0 (zQv post px) 126 0 [.ref 0, .int y1, .int y2, zU, zU, zU] [] M
theorem e_X12_lays {E : zEv} {D : Nat} {post : zM → Prop} {px : String → zM → Prop} {M : zM} {x1 : Int32}  (h : w_X12_lays_2 E D post px x1 (0 : Int32) M) : zCv E jX12_lays (D + 1) 0 [.ref 0, .int x1] M post px := by
  refine z_meth (by decide) (Nat.le_of_ble_eq_true rfl) ?_
  show Z E jX12_lays (D + 1) 0 (zQv post px) 0 0 [.ref 0, .int x1, zU, zU, zU, zU] [] M
  refine z_iconst (v := (0 : Int32)) dX12_lays_0 rfl ?_
  refine z_istore_n dX12_lays_1 (by decide) (ls' := [.ref 0, .int x1, .int (0 : Int32), zU, zU, zU]) rfl ?_
  exact h
theorem t_X12_lays_2 {E : zEv} {D : Nat} {post : zM → Prop} {px : String → zM → Prop} {M : zM}   {y1 : Int32} {y2 : Int32} (h : zCi E jX12_witnesses D 0 [.ref 0] M (fun r3 M1 => ((r3 ≤ y2 → w_X12_lays_30 E D post px y1 (0 : Int32) M1) ∧ (¬ r3 ≤ y2 → zCi E jX12_ownOf D 0 [.ref 0, .int y2, .int y1] M1 (fun r9 M7 => vp_in y2 5 ∧ ∀ M12 : zM, M12 = zup M7 9 (y2).toNatClampNeg r9 → w_X12_lays_2 E D post px y1 (y2 + (1 : Int32)) M12) px))) px) : w_X12_lays_2 E D post px y1 y2 M := by
  show Z E jX12_lays (D + 1) 0 (zQv post px) 2 0 [.ref 0, .int y1, .int y2, zU, zU, zU] [] M
  refine z_iload_n dX12_lays_2 rfl ?_
  refine z_aload_n dX12_lays_3 rfl ?_
  refine z_callVi (As := []) (st := [.int y2]) dX12_lays_4 zi_X12_92 rfl rfl zs_0 rfl rfl (Nat.le_of_ble_eq_true rfl) (by decide) (fun _ _ hx => hx) h ?_
  intro r3 M1 h2
  refine z_icmp_ge (tgt := 28) dX12_lays_7 (by decide) (fun g4 => ?_) (fun g4 => ?_)
  · have h5 := h2.1 g4
    refine z_iconst (v := (0 : Int32)) dX12_lays_28 rfl ?_
    refine z_istore_n dX12_lays_29 (by decide) (ls' := [.ref 0, .int y1, .int (0 : Int32), zU, zU, zU]) rfl ?_
    exact h5
  · have h6 := h2.2 g4
    refine z_aload_n dX12_lays_10 rfl ?_
    refine z_getR dX12_lays_11 zg_X12_42 zs_0 rfl ?_
    refine z_iload_n dX12_lays_14 rfl ?_
    refine z_aload_n dX12_lays_15 rfl ?_
    refine z_iload_n dX12_lays_16 rfl ?_
    refine z_iload_n dX12_lays_17 rfl ?_
    refine z_callVi (As := [.int y2, .int y1]) (st := [.int y2, .ref 9]) dX12_lays_18 zi_X12_313 rfl rfl zs_0 rfl rfl (Nat.le_of_ble_eq_true rfl) (by decide) (fun _ _ hx => hx) h6 ?_
    intro r9 M7 h8
    obtain ⟨g11, h10⟩ := h8
    refine z_iast dX12_lays_21 zs_9 g11 ?_
    generalize hhM12 : zup M7 9 (y2).toNatClampNeg r9 = M12
    have h13 := h10 M12 hhM12.symm
    refine z_iinc dX12_lays_22 rfl (by decide) (ls' := [.ref 0, .int y1, .int (y2 + (1 : Int32)), zU, zU, zU]) rfl ?_
    refine z_goto (tgt := 2) dX12_lays_25 (by decide) ?_
    exact h13
theorem t_X12_lays_30 {E : zEv} {D : Nat} {post : zM → Prop} {px : String → zM → Prop} {M : zM}   {y1 : Int32} {y2 : Int32} (h : zCi E jX12_witnesses D 0 [.ref 0] M (fun r3 M1 => ((r3 ≤ y2 → post M1) ∧ (¬ r3 ≤ y2 → zCi E jX12_ownOf D 0 [.ref 0, .int y2, .int y1] M1 (fun r9 M7 => zCi E jX12_passesOn D 0 [.ref 0, .int y2, .int y1] M7 (fun r12 M10 => zCi E jX12_of D 0 [.ref 0, .int y2, .int (4 : Int32)] M10 (fun r15 M13 => ((r15 ≤ 0 → w_X12_lays_93 E D post px y1 y2 ((r9 * r12) / (100 : Int32)) r15 M13) ∧ (¬ r15 ≤ 0 → vp_in (((24 : Int32) + r15) - (1 : Int32)) 2070 ∧ vp_in (M13.1 1 ((((24 : Int32) + r15) - (1 : Int32))).toNatClampNeg) 5 ∧ vp_in (M13.1 1 ((((24 : Int32) + r15) - (1 : Int32))).toNatClampNeg) 5 ∧ ∀ M25 : zM, M25 = zup M13 9 ((M13.1 1 ((((24 : Int32) + r15) - (1 : Int32))).toNatClampNeg)).toNatClampNeg ((M13.1 9 ((M13.1 1 ((((24 : Int32) + r15) - (1 : Int32))).toNatClampNeg)).toNatClampNeg) + ((r9 * r12) / (100 : Int32))) → w_X12_lays_93 E D post px y1 y2 ((r9 * r12) / (100 : Int32)) r15 M25))) px) px) px))) px) : w_X12_lays_30 E D post px y1 y2 M := by
  show Z E jX12_lays (D + 1) 0 (zQv post px) 30 0 [.ref 0, .int y1, .int y2, zU, zU, zU] [] M
  refine z_iload_n dX12_lays_30 rfl ?_
  refine z_aload_n dX12_lays_31 rfl ?_
  refine z_callVi (As := []) (st := [.int y2]) dX12_lays_32 zi_X12_92 rfl rfl zs_0 rfl rfl (Nat.le_of_ble_eq_true rfl) (by decide) (fun _ _ hx => hx) h ?_
  intro r3 M1 h2
  refine z_icmp_ge (tgt := 132) dX12_lays_35 (by decide) (fun g4 => ?_) (fun g4 => ?_)
  · have h5 := h2.1 g4
    exact z_vret dX12_lays_132 rfl (by decide) h5
  · have h6 := h2.2 g4
    refine z_aload_n dX12_lays_38 rfl ?_
    refine z_iload_n dX12_lays_39 rfl ?_
    refine z_iload_n dX12_lays_40 rfl ?_
    refine z_callVi (As := [.int y2, .int y1]) (st := []) dX12_lays_41 zi_X12_313 rfl rfl zs_0 rfl rfl (Nat.le_of_ble_eq_true rfl) (by decide) (fun _ _ hx => hx) h6 ?_
    intro r9 M7 h8
    refine z_istore_n dX12_lays_44 (by decide) (ls' := [.ref 0, .int y1, .int y2, .int r9, zU, zU]) rfl ?_
    refine z_iload_n dX12_lays_45 rfl ?_
    refine z_aload_n dX12_lays_46 rfl ?_
    refine z_iload_n dX12_lays_47 rfl ?_
    refine z_iload_n dX12_lays_48 rfl ?_
    refine z_callVi (As := [.int y2, .int y1]) (st := [.int r9]) dX12_lays_49 zi_X12_316 rfl rfl zs_0 rfl rfl (Nat.le_of_ble_eq_true rfl) (by decide) (fun _ _ hx => hx) h8 ?_
    intro r12 M10 h11
    refine z_imul dX12_lays_52 ?_
    refine z_bipush (v := (100 : Int32)) dX12_lays_53 rfl ?_
    refine z_idiv dX12_lays_55 (by decide) ?_
    refine z_istore dX12_lays_56 (by decide) (ls' := [.ref 0, .int y1, .int y2, .int r9, .int ((r9 * r12) / (100 : Int32)), zU]) rfl ?_
    refine z_aload_n dX12_lays_58 rfl ?_
    refine z_iload_n dX12_lays_59 rfl ?_
    refine z_iconst (v := (4 : Int32)) dX12_lays_60 rfl ?_
    refine z_callVi (As := [.int y2, .int (4 : Int32)]) (st := []) dX12_lays_61 zi_X12_285 rfl rfl zs_0 rfl rfl (Nat.le_of_ble_eq_true rfl) (by decide) (fun _ _ hx => hx) h11 ?_
    intro r15 M13 h14
    refine z_istore dX12_lays_64 (by decide) (ls' := [.ref 0, .int y1, .int y2, .int r9, .int ((r9 * r12) / (100 : Int32)), .int r15]) rfl ?_
    refine z_iload dX12_lays_66 rfl ?_
    refine z_if_le (tgt := 93) dX12_lays_68 (by decide) (fun g16 => ?_) (fun g16 => ?_)
    · have h17 := h14.1 g16
      refine z_weak [true, true, true, false, true, true] (ls' := [.ref 0, .int y1, .int y2, zU, .int ((r9 * r12) / (100 : Int32)), .int r15]) rfl rfl ?_
      exact h17
    · have h18 := h14.2 g16
      refine z_aload_n dX12_lays_71 rfl ?_
      refine z_getR dX12_lays_72 zg_X12_42 zs_0 rfl ?_
      refine z_aload_n dX12_lays_75 rfl ?_
      refine z_getR dX12_lays_76 zg_X12_13 zs_0 rfl ?_
      refine z_bipush (v := (24 : Int32)) dX12_lays_79 rfl ?_
      refine z_iload dX12_lays_81 rfl ?_
      refine z_iadd dX12_lays_83 ?_
      refine z_iconst (v := (1 : Int32)) dX12_lays_84 rfl ?_
      refine z_isub dX12_lays_85 ?_
      obtain ⟨g20, h19⟩ := h18
      refine z_iald dX12_lays_86 zs_1 g20 ?_
      refine z_dup2 dX12_lays_87 rfl rfl ?_
      obtain ⟨g22, h21⟩ := h19
      refine z_iald dX12_lays_88 zs_9 g22 ?_
      refine z_iload dX12_lays_89 rfl ?_
      refine z_iadd dX12_lays_91 ?_
      obtain ⟨g24, h23⟩ := h21
      refine z_iast dX12_lays_92 zs_9 g24 ?_
      generalize hhM25 : zup M13 9 ((M13.1 1 ((((24 : Int32) + r15) - (1 : Int32))).toNatClampNeg)).toNatClampNeg ((M13.1 9 ((M13.1 1 ((((24 : Int32) + r15) - (1 : Int32))).toNatClampNeg)).toNatClampNeg) + ((r9 * r12) / (100 : Int32))) = M25
      have h26 := h23 M25 hhM25.symm
      refine z_weak [true, true, true, false, true, true] (ls' := [.ref 0, .int y1, .int y2, zU, .int ((r9 * r12) / (100 : Int32)), .int r15]) rfl rfl ?_
      exact h26
theorem t_X12_lays_93 {E : zEv} {D : Nat} {post : zM → Prop} {px : String → zM → Prop} {M : zM}   {y1 : Int32} {y2 : Int32} {y4 : Int32} {y5 : Int32} (h : zCi E jX12_witnesses D 0 [.ref 0] M (fun r3 M1 => (((r3 - (1 : Int32)) ≤ y5 → w_X12_lays_126 E D post px y1 y2 M1) ∧ (¬ (r3 - (1 : Int32)) ≤ y5 → vp_in (((24 : Int32) + y5) + (1 : Int32)) 2070 ∧ vp_in (M1.1 1 ((((24 : Int32) + y5) + (1 : Int32))).toNatClampNeg) 5 ∧ vp_in (M1.1 1 ((((24 : Int32) + y5) + (1 : Int32))).toNatClampNeg) 5 ∧ ∀ M13 : zM, M13 = zup M1 9 ((M1.1 1 ((((24 : Int32) + y5) + (1 : Int32))).toNatClampNeg)).toNatClampNeg ((M1.1 9 ((M1.1 1 ((((24 : Int32) + y5) + (1 : Int32))).toNatClampNeg)).toNatClampNeg) + y4) → w_X12_lays_126 E D post px y1 y2 M13))) px) : w_X12_lays_93 E D post px y1 y2 y4 y5 M := by
  show Z E jX12_lays (D + 1) 0 (zQv post px) 93 0 [.ref 0, .int y1, .int y2, zU, .int y4, .int y5] [] M
  refine z_iload dX12_lays_93 rfl ?_
  refine z_aload_n dX12_lays_95 rfl ?_
  refine z_callVi (As := []) (st := [.int y5]) dX12_lays_96 zi_X12_92 rfl rfl zs_0 rfl rfl (Nat.le_of_ble_eq_true rfl) (by decide) (fun _ _ hx => hx) h ?_
  intro r3 M1 h2
  refine z_iconst (v := (1 : Int32)) dX12_lays_99 rfl ?_
  refine z_isub dX12_lays_100 ?_
  refine z_icmp_ge (tgt := 126) dX12_lays_101 (by decide) (fun g4 => ?_) (fun g4 => ?_)
  · have h5 := h2.1 g4
    refine z_weak [true, true, true, false, false, false] (ls' := [.ref 0, .int y1, .int y2, zU, zU, zU]) rfl rfl ?_
    exact h5
  · have h6 := h2.2 g4
    refine z_aload_n dX12_lays_104 rfl ?_
    refine z_getR dX12_lays_105 zg_X12_42 zs_0 rfl ?_
    refine z_aload_n dX12_lays_108 rfl ?_
    refine z_getR dX12_lays_109 zg_X12_13 zs_0 rfl ?_
    refine z_bipush (v := (24 : Int32)) dX12_lays_112 rfl ?_
    refine z_iload dX12_lays_114 rfl ?_
    refine z_iadd dX12_lays_116 ?_
    refine z_iconst (v := (1 : Int32)) dX12_lays_117 rfl ?_
    refine z_iadd dX12_lays_118 ?_
    obtain ⟨g8, h7⟩ := h6
    refine z_iald dX12_lays_119 zs_1 g8 ?_
    refine z_dup2 dX12_lays_120 rfl rfl ?_
    obtain ⟨g10, h9⟩ := h7
    refine z_iald dX12_lays_121 zs_9 g10 ?_
    refine z_iload dX12_lays_122 rfl ?_
    refine z_iadd dX12_lays_124 ?_
    obtain ⟨g12, h11⟩ := h9
    refine z_iast dX12_lays_125 zs_9 g12 ?_
    generalize hhM13 : zup M1 9 ((M1.1 1 ((((24 : Int32) + y5) + (1 : Int32))).toNatClampNeg)).toNatClampNeg ((M1.1 9 ((M1.1 1 ((((24 : Int32) + y5) + (1 : Int32))).toNatClampNeg)).toNatClampNeg) + y4) = M13
    have h14 := h11 M13 hhM13.symm
    refine z_weak [true, true, true, false, false, false] (ls' := [.ref 0, .int y1, .int y2, zU, zU, zU]) rfl rfl ?_
    exact h14
theorem t_X12_lays_126 {E : zEv} {D : Nat} {post : zM → Prop} {px : String → zM → Prop} {M : zM}   {y1 : Int32} {y2 : Int32} (h : w_X12_lays_30 E D post px y1 (y2 + (1 : Int32)) M) : w_X12_lays_126 E D post px y1 y2 M := by
  show Z E jX12_lays (D + 1) 0 (zQv post px) 126 0 [.ref 0, .int y1, .int y2, zU, zU, zU] [] M
  refine z_iinc dX12_lays_126 rfl (by decide) (ls' := [.ref 0, .int y1, .int (y2 + (1 : Int32)), zU, zU, zU]) rfl ?_
  refine z_goto (tgt := 30) dX12_lays_129 (by decide) ?_
  exact h
theorem e_X12_saidBy {E : zEv} {D : Nat} {post : Int32 → zM → Prop} {px : String → zM → Prop} {M : zM} {x1 : Int32}  (h : vp_in ((12 : Int32) + x1) 2070 ∧ zCi E jX12_whatIsSo D 0 [.ref 0] M (fun r5 M3 => post ((M.1 1 (((12 : Int32) + x1)).toNatClampNeg) &&& r5) M3) px) : zCi E jX12_saidBy (D + 1) 0 [.ref 0, .int x1] M post px := by
  refine z_meth (by decide) (Nat.le_of_ble_eq_true rfl) ?_
  show Z E jX12_saidBy (D + 1) 0 (zQi post px) 0 0 [.ref 0, .int x1] [] M
  refine z_aload_n dX12_saidBy_0 rfl ?_
  refine z_getR dX12_saidBy_1 zg_X12_13 zs_0 rfl ?_
  refine z_bipush (v := (12 : Int32)) dX12_saidBy_4 rfl ?_
  refine z_iload_n dX12_saidBy_6 rfl ?_
  refine z_iadd dX12_saidBy_7 ?_
  obtain ⟨g2, h1⟩ := h
  refine z_iald dX12_saidBy_8 zs_1 g2 ?_
  refine z_aload_n dX12_saidBy_9 rfl ?_
  refine z_callVi (As := []) (st := [.int (M.1 1 (((12 : Int32) + x1)).toNatClampNeg)]) dX12_saidBy_10 zi_X12_319 rfl rfl zs_0 rfl rfl (Nat.le_of_ble_eq_true rfl) (by decide) (fun _ _ hx => hx) h1 ?_
  intro r5 M3 h4
  refine z_iand dX12_saidBy_13 ?_
  exact z_iret dX12_saidBy_14 rfl rfl (by decide) h4
theorem e_X12_risesBy {E : zEv} {D : Nat} {post : Int32 → zM → Prop} {px : String → zM → Prop} {M : zM} {x1 : Int32} {x2 : Int32}  (h : zCi E jX12_saidBy D 0 [.ref 0, .int x1] M (fun r3 M1 => zCv E jX12_lays D 0 [.ref 0, .int r3] M1 (fun M4 => vp_in x2 5 ∧ post (M4.1 9 (x2).toNatClampNeg) M4) px) px) : zCi E jX12_risesBy (D + 1) 0 [.ref 0, .int x1, .int x2] M post px := by
  refine z_meth (by decide) (Nat.le_of_ble_eq_true rfl) ?_
  show Z E jX12_risesBy (D + 1) 0 (zQi post px) 0 0 [.ref 0, .int x1, .int x2] [] M
  refine z_aload_n dX12_risesBy_0 rfl ?_
  refine z_aload_n dX12_risesBy_1 rfl ?_
  refine z_iload_n dX12_risesBy_2 rfl ?_
  refine z_callVi (As := [.int x1]) (st := [.ref 0]) dX12_risesBy_3 zi_X12_322 rfl rfl zs_0 rfl rfl (Nat.le_of_ble_eq_true rfl) (by decide) (fun _ _ hx => hx) h ?_
  intro r3 M1 h2
  refine z_callVv (As := [.int r3]) (st := []) dX12_risesBy_6 zi_X12_325 rfl rfl zs_0 rfl rfl (Nat.le_of_ble_eq_true rfl) (by decide) (fun _ _ hx => hx) h2 ?_
  intro M4 h5
  refine z_aload_n dX12_risesBy_9 rfl ?_
  refine z_getR dX12_risesBy_10 zg_X12_42 zs_0 rfl ?_
  refine z_iload_n dX12_risesBy_13 rfl ?_
  obtain ⟨g7, h6⟩ := h5
  refine z_iald dX12_risesBy_14 zs_9 g7 ?_
  exact z_iret dX12_risesBy_15 rfl rfl (by decide) h6
def w_X12_isTold_5 (E : zEv) (D : Nat) (post : zM → Prop) (px : String → zM → Prop)  (y1 : Int32) (y2 : Int32) (y3 : Int32) (y4 : Int32) (y5 : Int32) (M : zM) : Prop := Z E jX12_isTold D 0 (zQv post px) 5 0 [.ref 0, .int y1, .int y2, .int y3, .int y4, .int y5] [] M
theorem e_X12_isTold {E : zEv} {D : Nat} {post : zM → Prop} {px : String → zM → Prop} {M : zM} {x1 : Int32} {x2 : Int32} {x3 : Int32} {x4 : Int32}  (h : w_X12_isTold_5 E D post px x1 x2 x3 x4 (299 : Int32) M) : zCv E jX12_isTold D 0 [.ref 0, .int x1, .int x2, .int x3, .int x4] M post px := by
  refine z_meth (by decide) (Nat.le_of_ble_eq_true rfl) ?_
  show Z E jX12_isTold D 0 (zQv post px) 0 0 [.ref 0, .int x1, .int x2, .int x3, .int x4, zU] [] M
  refine z_sipush (v := (299 : Int32)) dX12_isTold_0 rfl ?_
  refine z_istore dX12_isTold_3 (by decide) (ls' := [.ref 0, .int x1, .int x2, .int x3, .int x4, .int (299 : Int32)]) rfl ?_
  exact h
theorem t_X12_isTold_5 {E : zEv} {D : Nat} {post : zM → Prop} {px : String → zM → Prop} {M : zM}   {y1 : Int32} {y2 : Int32} {y3 : Int32} {y4 : Int32} {y5 : Int32} (h : ((y5 < (5 : Int32) → ∀ M4 : zM, M4 = zup M 1 ((72 : Int32)).toNatClampNeg (M.1 1 ((6 : Int32)).toNatClampNeg) → ∀ M6 : zM, M6 = zup M4 1 ((73 : Int32)).toNatClampNeg y1 → ∀ M8 : zM, M8 = zup M6 1 ((74 : Int32)).toNatClampNeg y2 → ∀ M10 : zM, M10 = zup M8 1 ((75 : Int32)).toNatClampNeg y3 → ∀ M12 : zM, M12 = zup M10 1 ((76 : Int32)).toNatClampNeg y4 → ∀ M14 : zM, M14 = zup M12 1 ((10 : Int32)).toNatClampNeg (zmin (60 : Int32) ((M12.1 1 ((10 : Int32)).toNatClampNeg) + (1 : Int32))) → post M14) ∧ (¬ y5 < (5 : Int32) → vp_in (((72 : Int32) + y5) - (5 : Int32)) 2070 ∧ vp_in ((72 : Int32) + y5) 2070 ∧ ∀ M20 : zM, M20 = zup M 1 (((72 : Int32) + y5)).toNatClampNeg (M.1 1 ((((72 : Int32) + y5) - (5 : Int32))).toNatClampNeg) → w_X12_isTold_5 E D post px y1 y2 y3 y4 (y5 + (-1 : Int32)) M20))) : w_X12_isTold_5 E D post px y1 y2 y3 y4 y5 M := by
  show Z E jX12_isTold D 0 (zQv post px) 5 0 [.ref 0, .int y1, .int y2, .int y3, .int y4, .int y5] [] M
  refine z_iload dX12_isTold_5 rfl ?_
  refine z_iconst (v := (5 : Int32)) dX12_isTold_7 rfl ?_
  refine z_icmp_lt (tgt := 39) dX12_isTold_8 (by decide) (fun g1 => ?_) (fun g1 => ?_)
  · have h2 := h.1 g1
    refine z_aload_n dX12_isTold_39 rfl ?_
    refine z_getR dX12_isTold_40 zg_X12_13 zs_0 rfl ?_
    refine z_bipush (v := (72 : Int32)) dX12_isTold_43 rfl ?_
    refine z_aload_n dX12_isTold_45 rfl ?_
    refine z_getR dX12_isTold_46 zg_X12_13 zs_0 rfl ?_
    refine z_bipush (v := (6 : Int32)) dX12_isTold_49 rfl ?_
    refine z_iald dX12_isTold_51 zs_1 (by unfold vp_in; decide) ?_
    refine z_iast dX12_isTold_52 zs_1 (by unfold vp_in; decide) ?_
    generalize hhM4 : zup M 1 ((72 : Int32)).toNatClampNeg (M.1 1 ((6 : Int32)).toNatClampNeg) = M4
    have h5 := h2 M4 hhM4.symm
    refine z_aload_n dX12_isTold_53 rfl ?_
    refine z_getR dX12_isTold_54 zg_X12_13 zs_0 rfl ?_
    refine z_bipush (v := (73 : Int32)) dX12_isTold_57 rfl ?_
    refine z_iload_n dX12_isTold_59 rfl ?_
    refine z_iast dX12_isTold_60 zs_1 (by unfold vp_in; decide) ?_
    generalize hhM6 : zup M4 1 ((73 : Int32)).toNatClampNeg y1 = M6
    have h7 := h5 M6 hhM6.symm
    refine z_aload_n dX12_isTold_61 rfl ?_
    refine z_getR dX12_isTold_62 zg_X12_13 zs_0 rfl ?_
    refine z_bipush (v := (74 : Int32)) dX12_isTold_65 rfl ?_
    refine z_iload_n dX12_isTold_67 rfl ?_
    refine z_iast dX12_isTold_68 zs_1 (by unfold vp_in; decide) ?_
    generalize hhM8 : zup M6 1 ((74 : Int32)).toNatClampNeg y2 = M8
    have h9 := h7 M8 hhM8.symm
    refine z_aload_n dX12_isTold_69 rfl ?_
    refine z_getR dX12_isTold_70 zg_X12_13 zs_0 rfl ?_
    refine z_bipush (v := (75 : Int32)) dX12_isTold_73 rfl ?_
    refine z_iload_n dX12_isTold_75 rfl ?_
    refine z_iast dX12_isTold_76 zs_1 (by unfold vp_in; decide) ?_
    generalize hhM10 : zup M8 1 ((75 : Int32)).toNatClampNeg y3 = M10
    have h11 := h9 M10 hhM10.symm
    refine z_aload_n dX12_isTold_77 rfl ?_
    refine z_getR dX12_isTold_78 zg_X12_13 zs_0 rfl ?_
    refine z_bipush (v := (76 : Int32)) dX12_isTold_81 rfl ?_
    refine z_iload dX12_isTold_83 rfl ?_
    refine z_iast dX12_isTold_85 zs_1 (by unfold vp_in; decide) ?_
    generalize hhM12 : zup M10 1 ((76 : Int32)).toNatClampNeg y4 = M12
    have h13 := h11 M12 hhM12.symm
    refine z_aload_n dX12_isTold_86 rfl ?_
    refine z_getR dX12_isTold_87 zg_X12_13 zs_0 rfl ?_
    refine z_bipush (v := (10 : Int32)) dX12_isTold_90 rfl ?_
    refine z_bipush (v := (60 : Int32)) dX12_isTold_92 rfl ?_
    refine z_aload_n dX12_isTold_94 rfl ?_
    refine z_getR dX12_isTold_95 zg_X12_13 zs_0 rfl ?_
    refine z_bipush (v := (10 : Int32)) dX12_isTold_98 rfl ?_
    refine z_iald dX12_isTold_100 zs_1 (by unfold vp_in; decide) ?_
    refine z_iconst (v := (1 : Int32)) dX12_isTold_101 rfl ?_
    refine z_iadd dX12_isTold_102 ?_
    refine z_min dX12_isTold_103 zm_X12_310 (Nat.le_of_ble_eq_true rfl) (by decide) ?_
    refine z_iast dX12_isTold_106 zs_1 (by unfold vp_in; decide) ?_
    generalize hhM14 : zup M12 1 ((10 : Int32)).toNatClampNeg (zmin (60 : Int32) ((M12.1 1 ((10 : Int32)).toNatClampNeg) + (1 : Int32))) = M14
    have h15 := h13 M14 hhM14.symm
    exact z_vret dX12_isTold_107 rfl (by decide) h15
  · have h3 := h.2 g1
    refine z_aload_n dX12_isTold_11 rfl ?_
    refine z_getR dX12_isTold_12 zg_X12_13 zs_0 rfl ?_
    refine z_bipush (v := (72 : Int32)) dX12_isTold_15 rfl ?_
    refine z_iload dX12_isTold_17 rfl ?_
    refine z_iadd dX12_isTold_19 ?_
    refine z_aload_n dX12_isTold_20 rfl ?_
    refine z_getR dX12_isTold_21 zg_X12_13 zs_0 rfl ?_
    refine z_bipush (v := (72 : Int32)) dX12_isTold_24 rfl ?_
    refine z_iload dX12_isTold_26 rfl ?_
    refine z_iadd dX12_isTold_28 ?_
    refine z_iconst (v := (5 : Int32)) dX12_isTold_29 rfl ?_
    refine z_isub dX12_isTold_30 ?_
    obtain ⟨g17, h16⟩ := h3
    refine z_iald dX12_isTold_31 zs_1 g17 ?_
    obtain ⟨g19, h18⟩ := h16
    refine z_iast dX12_isTold_32 zs_1 g19 ?_
    generalize hhM20 : zup M 1 (((72 : Int32) + y5)).toNatClampNeg (M.1 1 ((((72 : Int32) + y5) - (5 : Int32))).toNatClampNeg) = M20
    have h21 := h18 M20 hhM20.symm
    refine z_iinc dX12_isTold_33 rfl (by decide) (ls' := [.ref 0, .int y1, .int y2, .int y3, .int y4, .int (y5 + (-1 : Int32))]) rfl ?_
    refine z_goto (tgt := 5) dX12_isTold_36 (by decide) ?_
    exact h21
def w_X12_isSaid_14 (E : zEv) (D : Nat) (post : Int32 → zM → Prop) (px : String → zM → Prop)  (y1 : Int32) (y2 : Int32) (y3 : Int32) (y4 : Int32) (M : zM) : Prop := Z E jX12_isSaid (D + 1) 0 (zQi post px) 14 0 [.ref 0, .int y1, .int y2, .int y3, .int y4] [] M
def w_X12_isSaid_89 (E : zEv) (D : Nat) (post : Int32 → zM → Prop) (px : String → zM → Prop)  (y1 : Int32) (y2 : Int32) (y3 : Int32) (y4 : Int32) (M : zM) : Prop := Z E jX12_isSaid (D + 1) 0 (zQi post px) 89 0 [.ref 0, .int y1, .int y2, .int y3, .int y4] [] M
theorem e_X12_isSaid {E : zEv} {D : Nat} {post : Int32 → zM → Prop} {px : String → zM → Prop} {M : zM} {x1 : Int32} {x2 : Int32}  (h : zCi E jX12_saidBy D 0 [.ref 0, .int x1] M (fun r3 M1 => zCv E jX12_lays D 0 [.ref 0, .int r3] M1 (fun M4 => w_X12_isSaid_14 E D post px x1 x2 (0 : Int32) (0 : Int32) M4) px) px) : zCi E jX12_isSaid (D + 1) 0 [.ref 0, .int x1, .int x2] M post px := by
  refine z_meth (by decide) (Nat.le_of_ble_eq_true rfl) ?_
  show Z E jX12_isSaid (D + 1) 0 (zQi post px) 0 0 [.ref 0, .int x1, .int x2, zU, zU] [] M
  refine z_aload_n dX12_isSaid_0 rfl ?_
  refine z_aload_n dX12_isSaid_1 rfl ?_
  refine z_iload_n dX12_isSaid_2 rfl ?_
  refine z_callVi (As := [.int x1]) (st := [.ref 0]) dX12_isSaid_3 zi_X12_322 rfl rfl zs_0 rfl rfl (Nat.le_of_ble_eq_true rfl) (by decide) (fun _ _ hx => hx) h ?_
  intro r3 M1 h2
  refine z_callVv (As := [.int r3]) (st := []) dX12_isSaid_6 zi_X12_325 rfl rfl zs_0 rfl rfl (Nat.le_of_ble_eq_true rfl) (by decide) (fun _ _ hx => hx) h2 ?_
  intro M4 h5
  refine z_iconst (v := (0 : Int32)) dX12_isSaid_9 rfl ?_
  refine z_istore_n dX12_isSaid_10 (by decide) (ls' := [.ref 0, .int x1, .int x2, .int (0 : Int32), zU]) rfl ?_
  refine z_iconst (v := (0 : Int32)) dX12_isSaid_11 rfl ?_
  refine z_istore dX12_isSaid_12 (by decide) (ls' := [.ref 0, .int x1, .int x2, .int (0 : Int32), .int (0 : Int32)]) rfl ?_
  exact h5
theorem t_X12_isSaid_14 {E : zEv} {D : Nat} {post : Int32 → zM → Prop} {px : String → zM → Prop} {M : zM}   {y1 : Int32} {y2 : Int32} {y3 : Int32} {y4 : Int32} (h : zCi E jX12_witnesses D 0 [.ref 0] M (fun r3 M1 => ((r3 ≤ y4 → post y3 M1) ∧ (¬ r3 ≤ y4 → vp_in y4 5 ∧ ((¬ (M1.1 9 (y4).toNatClampNeg) = 0 → zCi E jX12_at D 0 [.int y4, .int (3 : Int32)] M1 (fun r14 M12 => zCi E jX12_of D 0 [.ref 0, .int y4, .int (3 : Int32)] M12 (fun r17 M15 => vp_in y4 5 ∧ vp_in r14 2070 ∧ ∀ M22 : zM, M22 = zup M15 1 (r14).toNatClampNeg (zmin (99 : Int32) (r17 + (M15.1 9 (y4).toNatClampNeg))) → vp_in y4 5 ∧ zCv E jX12_isTold D 0 [.ref 0, .int y4, .int y2, .int y1, .int (M22.1 9 (y4).toNatClampNeg)] M22 (fun M26 => w_X12_isSaid_89 E D post px y1 y2 (y3 ||| ((1 : Int32) <<< (y4 &&& 31))) y4 M26) px) px) px) ∧ ((M1.1 9 (y4).toNatClampNeg) = 0 → w_X12_isSaid_89 E D post px y1 y2 y3 y4 M1))))) px) : w_X12_isSaid_14 E D post px y1 y2 y3 y4 M := by
  show Z E jX12_isSaid (D + 1) 0 (zQi post px) 14 0 [.ref 0, .int y1, .int y2, .int y3, .int y4] [] M
  refine z_iload dX12_isSaid_14 rfl ?_
  refine z_aload_n dX12_isSaid_16 rfl ?_
  refine z_callVi (As := []) (st := [.int y4]) dX12_isSaid_17 zi_X12_92 rfl rfl zs_0 rfl rfl (Nat.le_of_ble_eq_true rfl) (by decide) (fun _ _ hx => hx) h ?_
  intro r3 M1 h2
  refine z_icmp_ge (tgt := 95) dX12_isSaid_20 (by decide) (fun g4 => ?_) (fun g4 => ?_)
  · have h5 := h2.1 g4
    refine z_iload_n dX12_isSaid_95 rfl ?_
    exact z_iret dX12_isSaid_96 rfl rfl (by decide) h5
  · have h6 := h2.2 g4
    refine z_aload_n dX12_isSaid_23 rfl ?_
    refine z_getR dX12_isSaid_24 zg_X12_42 zs_0 rfl ?_
    refine z_iload dX12_isSaid_27 rfl ?_
    obtain ⟨g8, h7⟩ := h6
    refine z_iald dX12_isSaid_29 zs_9 g8 ?_
    refine z_if_ne (tgt := 36) dX12_isSaid_30 (by decide) (fun g9 => ?_) (fun g9 => ?_)
    · have h10 := h7.1 g9
      refine z_iload_n dX12_isSaid_36 rfl ?_
      refine z_iconst (v := (1 : Int32)) dX12_isSaid_37 rfl ?_
      refine z_iload dX12_isSaid_38 rfl ?_
      refine z_ishl dX12_isSaid_40 ?_
      refine z_ior dX12_isSaid_41 ?_
      refine z_istore_n dX12_isSaid_42 (by decide) (ls' := [.ref 0, .int y1, .int y2, .int (y3 ||| ((1 : Int32) <<< (y4 &&& 31))), .int y4]) rfl ?_
      refine z_aload_n dX12_isSaid_43 rfl ?_
      refine z_getR dX12_isSaid_44 zg_X12_13 zs_0 rfl ?_
      refine z_iload dX12_isSaid_47 rfl ?_
      refine z_iconst (v := (3 : Int32)) dX12_isSaid_49 rfl ?_
      refine z_callSi (As := [.int y4, .int (3 : Int32)]) (st := [.ref 1]) dX12_isSaid_50 zi_X12_78 rfl rfl (Nat.le_of_ble_eq_true rfl) (by decide) (fun _ _ hx => hx) h10 ?_
      intro r14 M12 h13
      refine z_bipush (v := (99 : Int32)) dX12_isSaid_53 rfl ?_
      refine z_aload_n dX12_isSaid_55 rfl ?_
      refine z_iload dX12_isSaid_56 rfl ?_
      refine z_iconst (v := (3 : Int32)) dX12_isSaid_58 rfl ?_
      refine z_callVi (As := [.int y4, .int (3 : Int32)]) (st := [.int (99 : Int32), .int r14, .ref 1]) dX12_isSaid_59 zi_X12_285 rfl rfl zs_0 rfl rfl (Nat.le_of_ble_eq_true rfl) (by decide) (fun _ _ hx => hx) h13 ?_
      intro r17 M15 h16
      refine z_aload_n dX12_isSaid_62 rfl ?_
      refine z_getR dX12_isSaid_63 zg_X12_42 zs_0 rfl ?_
      refine z_iload dX12_isSaid_66 rfl ?_
      obtain ⟨g19, h18⟩ := h16
      refine z_iald dX12_isSaid_68 zs_9 g19 ?_
      refine z_iadd dX12_isSaid_69 ?_
      refine z_min dX12_isSaid_70 zm_X12_310 (Nat.le_of_ble_eq_true rfl) (by decide) ?_
      obtain ⟨g21, h20⟩ := h18
      refine z_iast dX12_isSaid_73 zs_1 g21 ?_
      generalize hhM22 : zup M15 1 (r14).toNatClampNeg (zmin (99 : Int32) (r17 + (M15.1 9 (y4).toNatClampNeg))) = M22
      have h23 := h20 M22 hhM22.symm
      refine z_aload_n dX12_isSaid_74 rfl ?_
      refine z_iload dX12_isSaid_75 rfl ?_
      refine z_iload_n dX12_isSaid_77 rfl ?_
      refine z_iload_n dX12_isSaid_78 rfl ?_
      refine z_aload_n dX12_isSaid_79 rfl ?_
      refine z_getR dX12_isSaid_80 zg_X12_42 zs_0 rfl ?_
      refine z_iload dX12_isSaid_83 rfl ?_
      obtain ⟨g25, h24⟩ := h23
      refine z_iald dX12_isSaid_85 zs_9 g25 ?_
      refine z_callVv (As := [.int y4, .int y2, .int y1, .int (M22.1 9 (y4).toNatClampNeg)]) (st := []) dX12_isSaid_86 zi_X12_329 rfl rfl zs_0 rfl rfl (Nat.le_of_ble_eq_true rfl) (by decide) (fun _ _ hx => hx) h24 ?_
      intro M26 h27
      exact h27
    · have h11 := h7.2 g9
      refine z_goto (tgt := 89) dX12_isSaid_33 (by decide) ?_
      exact h11
theorem t_X12_isSaid_89 {E : zEv} {D : Nat} {post : Int32 → zM → Prop} {px : String → zM → Prop} {M : zM}   {y1 : Int32} {y2 : Int32} {y3 : Int32} {y4 : Int32} (h : w_X12_isSaid_14 E D post px y1 y2 y3 (y4 + (1 : Int32)) M) : w_X12_isSaid_89 E D post px y1 y2 y3 y4 M := by
  show Z E jX12_isSaid (D + 1) 0 (zQi post px) 89 0 [.ref 0, .int y1, .int y2, .int y3, .int y4] [] M
  refine z_iinc dX12_isSaid_89 rfl (by decide) (ls' := [.ref 0, .int y1, .int y2, .int y3, .int (y4 + (1 : Int32))]) rfl ?_
  refine z_goto (tgt := 14) dX12_isSaid_92 (by decide) ?_
  exact h
def w_X12_allFall_2 (E : zEv) (D : Nat) (post : zM → Prop) (px : String → zM → Prop)  (y1 : Int32) (M : zM) : Prop := Z E jX12_allFall (D + 1) 0 (zQv post px) 2 0 [.ref 0, .int y1] [] M
def w_X12_allFall_29 (E : zEv) (D : Nat) (post : zM → Prop) (px : String → zM → Prop)  (y1 : Int32) (M : zM) : Prop := Z E jX12_allFall (D + 1) 0 (zQv post px) 29 0 [.ref 0, .int y1] [] M
theorem e_X12_allFall {E : zEv} {D : Nat} {post : zM → Prop} {px : String → zM → Prop} {M : zM}   (h : w_X12_allFall_2 E D post px (0 : Int32) M) : zCv E jX12_allFall (D + 1) 0 [.ref 0] M post px := by
  refine z_meth (by decide) (Nat.le_of_ble_eq_true rfl) ?_
  show Z E jX12_allFall (D + 1) 0 (zQv post px) 0 0 [.ref 0, zU] [] M
  refine z_iconst (v := (0 : Int32)) dX12_allFall_0 rfl ?_
  refine z_istore_n dX12_allFall_1 (by decide) (ls' := [.ref 0, .int (0 : Int32)]) rfl ?_
  exact h
theorem t_X12_allFall_2 {E : zEv} {D : Nat} {post : zM → Prop} {px : String → zM → Prop} {M : zM}   {y1 : Int32} (h : zCi E jX12_witnesses D 0 [.ref 0] M (fun r3 M1 => ((r3 ≤ y1 → w_X12_allFall_29 E D post px (0 : Int32) M1) ∧ (¬ r3 ≤ y1 → zCi E jX12_fallsBy D 0 [.ref 0, .int y1] M1 (fun r9 M7 => vp_in y1 5 ∧ ∀ M12 : zM, M12 = zup M7 10 (y1).toNatClampNeg r9 → w_X12_allFall_2 E D post px (y1 + (1 : Int32)) M12) px))) px) : w_X12_allFall_2 E D post px y1 M := by
  show Z E jX12_allFall (D + 1) 0 (zQv post px) 2 0 [.ref 0, .int y1] [] M
  refine z_iload_n dX12_allFall_2 rfl ?_
  refine z_aload_n dX12_allFall_3 rfl ?_
  refine z_callVi (As := []) (st := [.int y1]) dX12_allFall_4 zi_X12_92 rfl rfl zs_0 rfl rfl (Nat.le_of_ble_eq_true rfl) (by decide) (fun _ _ hx => hx) h ?_
  intro r3 M1 h2
  refine z_icmp_ge (tgt := 27) dX12_allFall_7 (by decide) (fun g4 => ?_) (fun g4 => ?_)
  · have h5 := h2.1 g4
    refine z_iconst (v := (0 : Int32)) dX12_allFall_27 rfl ?_
    refine z_istore_n dX12_allFall_28 (by decide) (ls' := [.ref 0, .int (0 : Int32)]) rfl ?_
    exact h5
  · have h6 := h2.2 g4
    refine z_aload_n dX12_allFall_10 rfl ?_
    refine z_getR dX12_allFall_11 zg_X12_45 zs_0 rfl ?_
    refine z_iload_n dX12_allFall_14 rfl ?_
    refine z_aload_n dX12_allFall_15 rfl ?_
    refine z_iload_n dX12_allFall_16 rfl ?_
    refine z_callVi (As := [.int y1]) (st := [.int y1, .ref 10]) dX12_allFall_17 zi_X12_333 rfl rfl zs_0 rfl rfl (Nat.le_of_ble_eq_true rfl) (by decide) (fun _ _ hx => hx) h6 ?_
    intro r9 M7 h8
    obtain ⟨g11, h10⟩ := h8
    refine z_iast dX12_allFall_20 zs_10 g11 ?_
    generalize hhM12 : zup M7 10 (y1).toNatClampNeg r9 = M12
    have h13 := h10 M12 hhM12.symm
    refine z_iinc dX12_allFall_21 rfl (by decide) (ls' := [.ref 0, .int (y1 + (1 : Int32))]) rfl ?_
    refine z_goto (tgt := 2) dX12_allFall_24 (by decide) ?_
    exact h13
theorem t_X12_allFall_29 {E : zEv} {D : Nat} {post : zM → Prop} {px : String → zM → Prop} {M : zM}   {y1 : Int32} (h : zCi E jX12_witnesses D 0 [.ref 0] M (fun r3 M1 => ((r3 ≤ y1 → post M1) ∧ (¬ r3 ≤ y1 → zCi E jX12_at D 0 [.int y1, .int (3 : Int32)] M1 (fun r9 M7 => zCi E jX12_of D 0 [.ref 0, .int y1, .int (3 : Int32)] M7 (fun r12 M10 => vp_in y1 5 ∧ vp_in r9 2070 ∧ ∀ M17 : zM, M17 = zup M10 1 (r9).toNatClampNeg (zmax (0 : Int32) (r12 - (M10.1 10 (y1).toNatClampNeg))) → w_X12_allFall_29 E D post px (y1 + (1 : Int32)) M17) px) px))) px) : w_X12_allFall_29 E D post px y1 M := by
  show Z E jX12_allFall (D + 1) 0 (zQv post px) 29 0 [.ref 0, .int y1] [] M
  refine z_iload_n dX12_allFall_29 rfl ?_
  refine z_aload_n dX12_allFall_30 rfl ?_
  refine z_callVi (As := []) (st := [.int y1]) dX12_allFall_31 zi_X12_92 rfl rfl zs_0 rfl rfl (Nat.le_of_ble_eq_true rfl) (by decide) (fun _ _ hx => hx) h ?_
  intro r3 M1 h2
  refine z_icmp_ge (tgt := 70) dX12_allFall_34 (by decide) (fun g4 => ?_) (fun g4 => ?_)
  · have h5 := h2.1 g4
    exact z_vret dX12_allFall_70 rfl (by decide) h5
  · have h6 := h2.2 g4
    refine z_aload_n dX12_allFall_37 rfl ?_
    refine z_getR dX12_allFall_38 zg_X12_13 zs_0 rfl ?_
    refine z_iload_n dX12_allFall_41 rfl ?_
    refine z_iconst (v := (3 : Int32)) dX12_allFall_42 rfl ?_
    refine z_callSi (As := [.int y1, .int (3 : Int32)]) (st := [.ref 1]) dX12_allFall_43 zi_X12_78 rfl rfl (Nat.le_of_ble_eq_true rfl) (by decide) (fun _ _ hx => hx) h6 ?_
    intro r9 M7 h8
    refine z_iconst (v := (0 : Int32)) dX12_allFall_46 rfl ?_
    refine z_aload_n dX12_allFall_47 rfl ?_
    refine z_iload_n dX12_allFall_48 rfl ?_
    refine z_iconst (v := (3 : Int32)) dX12_allFall_49 rfl ?_
    refine z_callVi (As := [.int y1, .int (3 : Int32)]) (st := [.int (0 : Int32), .int r9, .ref 1]) dX12_allFall_50 zi_X12_285 rfl rfl zs_0 rfl rfl (Nat.le_of_ble_eq_true rfl) (by decide) (fun _ _ hx => hx) h8 ?_
    intro r12 M10 h11
    refine z_aload_n dX12_allFall_53 rfl ?_
    refine z_getR dX12_allFall_54 zg_X12_45 zs_0 rfl ?_
    refine z_iload_n dX12_allFall_57 rfl ?_
    obtain ⟨g14, h13⟩ := h11
    refine z_iald dX12_allFall_58 zs_10 g14 ?_
    refine z_isub dX12_allFall_59 ?_
    refine z_max dX12_allFall_60 zm_X12_305 (Nat.le_of_ble_eq_true rfl) (by decide) ?_
    obtain ⟨g16, h15⟩ := h13
    refine z_iast dX12_allFall_63 zs_1 g16 ?_
    generalize hhM17 : zup M10 1 (r9).toNatClampNeg (zmax (0 : Int32) (r12 - (M10.1 10 (y1).toNatClampNeg))) = M17
    have h18 := h15 M17 hhM17.symm
    refine z_iinc dX12_allFall_64 rfl (by decide) (ls' := [.ref 0, .int (y1 + (1 : Int32))]) rfl ?_
    refine z_goto (tgt := 29) dX12_allFall_67 (by decide) ?_
    exact h18
theorem e_X12_blushes {E : zEv} {D : Nat} {post : zM → Prop} {px : String → zM → Prop} {M : zM} {x1 : Int32}  (h : zCi E jX12_drawn D 0 [.ref 0, .int (100 : Int32)] M (fun r3 M1 => ((r3 < (M1.1 1 ((8 : Int32)).toNatClampNeg) → zCi E jX12_at D 0 [.int x1, .int (3 : Int32)] M1 (fun r9 M7 => zCi E jX12_of D 0 [.ref 0, .int x1, .int (3 : Int32)] M7 (fun r12 M10 => vp_in r9 2070 ∧ ∀ M15 : zM, M15 = zup M10 1 (r9).toNatClampNeg (zmin (99 : Int32) (r12 + (20 : Int32))) → zCv E jX12_isTold D 0 [.ref 0, .int x1, .int (2 : Int32), .int (-1 : Int32), .int (20 : Int32)] M15 (fun M17 => post M17) px) px) px) ∧ (¬ r3 < (M1.1 1 ((8 : Int32)).toNatClampNeg) → post M1))) px) : zCv E jX12_blushes (D + 1) 0 [.ref 0, .int x1] M post px := by
  refine z_meth (by decide) (Nat.le_of_ble_eq_true rfl) ?_
  show Z E jX12_blushes (D + 1) 0 (zQv post px) 0 0 [.ref 0, .int x1] [] M
  refine z_aload_n dX12_blushes_0 rfl ?_
  refine z_bipush (v := (100 : Int32)) dX12_blushes_1 rfl ?_
  refine z_callVi (As := [.int (100 : Int32)]) (st := []) dX12_blushes_3 zi_X12_336 rfl rfl zs_0 rfl rfl (Nat.le_of_ble_eq_true rfl) (by decide) (fun _ _ hx => hx) h ?_
  intro r3 M1 h2
  refine z_aload_n dX12_blushes_6 rfl ?_
  refine z_getR dX12_blushes_7 zg_X12_13 zs_0 rfl ?_
  refine z_bipush (v := (8 : Int32)) dX12_blushes_10 rfl ?_
  refine z_iald dX12_blushes_12 zs_1 (by unfold vp_in; decide) ?_
  refine z_icmp_lt (tgt := 17) dX12_blushes_13 (by decide) (fun g4 => ?_) (fun g4 => ?_)
  · have h5 := h2.1 g4
    refine z_aload_n dX12_blushes_17 rfl ?_
    refine z_getR dX12_blushes_18 zg_X12_13 zs_0 rfl ?_
    refine z_iload_n dX12_blushes_21 rfl ?_
    refine z_iconst (v := (3 : Int32)) dX12_blushes_22 rfl ?_
    refine z_callSi (As := [.int x1, .int (3 : Int32)]) (st := [.ref 1]) dX12_blushes_23 zi_X12_78 rfl rfl (Nat.le_of_ble_eq_true rfl) (by decide) (fun _ _ hx => hx) h5 ?_
    intro r9 M7 h8
    refine z_bipush (v := (99 : Int32)) dX12_blushes_26 rfl ?_
    refine z_aload_n dX12_blushes_28 rfl ?_
    refine z_iload_n dX12_blushes_29 rfl ?_
    refine z_iconst (v := (3 : Int32)) dX12_blushes_30 rfl ?_
    refine z_callVi (As := [.int x1, .int (3 : Int32)]) (st := [.int (99 : Int32), .int r9, .ref 1]) dX12_blushes_31 zi_X12_285 rfl rfl zs_0 rfl rfl (Nat.le_of_ble_eq_true rfl) (by decide) (fun _ _ hx => hx) h8 ?_
    intro r12 M10 h11
    refine z_bipush (v := (20 : Int32)) dX12_blushes_34 rfl ?_
    refine z_iadd dX12_blushes_36 ?_
    refine z_min dX12_blushes_37 zm_X12_310 (Nat.le_of_ble_eq_true rfl) (by decide) ?_
    obtain ⟨g14, h13⟩ := h11
    refine z_iast dX12_blushes_40 zs_1 g14 ?_
    generalize hhM15 : zup M10 1 (r9).toNatClampNeg (zmin (99 : Int32) (r12 + (20 : Int32))) = M15
    have h16 := h13 M15 hhM15.symm
    refine z_aload_n dX12_blushes_41 rfl ?_
    refine z_iload_n dX12_blushes_42 rfl ?_
    refine z_iconst (v := (2 : Int32)) dX12_blushes_43 rfl ?_
    refine z_iconst (v := (-1 : Int32)) dX12_blushes_44 rfl ?_
    refine z_bipush (v := (20 : Int32)) dX12_blushes_45 rfl ?_
    refine z_callVv (As := [.int x1, .int (2 : Int32), .int (-1 : Int32), .int (20 : Int32)]) (st := []) dX12_blushes_47 zi_X12_329 rfl rfl zs_0 rfl rfl (Nat.le_of_ble_eq_true rfl) (by decide) (fun _ _ hx => hx) h16 ?_
    intro M17 h18
    exact z_vret dX12_blushes_50 rfl (by decide) h18
  · have h6 := h2.2 g4
    exact z_vret dX12_blushes_16 rfl (by decide) h6
def w_X12_oneMoment_35 (E : zEv) (D : Nat) (post : Int32 → zM → Prop) (px : String → zM → Prop)  (y1 : Int32) (M : zM) : Prop := Z E jX12_oneMoment (D + 1) 0 (zQi post px) 35 0 [.ref 0, .int y1, zU, zU] [] M
def w_X12_oneMoment_36 (E : zEv) (D : Nat) (post : Int32 → zM → Prop) (px : String → zM → Prop)  (y1 : Int32) (s0 : Int32) (M : zM) : Prop := Z E jX12_oneMoment (D + 1) 0 (zQi post px) 36 0 [.ref 0, .int y1, zU, zU] [.int s0] M
def w_X12_oneMoment_55 (E : zEv) (D : Nat) (post : Int32 → zM → Prop) (px : String → zM → Prop)  (y1 : Int32) (y2 : Int32) (M : zM) : Prop := Z E jX12_oneMoment (D + 1) 0 (zQi post px) 55 0 [.ref 0, .int y1, .int y2, zU] [] M
def w_X12_oneMoment_57 (E : zEv) (D : Nat) (post : Int32 → zM → Prop) (px : String → zM → Prop)  (y1 : Int32) (y2 : Int32) (y3 : Int32) (M : zM) : Prop := Z E jX12_oneMoment (D + 1) 0 (zQi post px) 57 0 [.ref 0, .int y1, .int y2, .int y3] [] M
def w_X12_oneMoment_80 (E : zEv) (D : Nat) (post : Int32 → zM → Prop) (px : String → zM → Prop)  (y2 : Int32) (M : zM) : Prop := Z E jX12_oneMoment (D + 1) 0 (zQi post px) 80 0 [.ref 0, zU, .int y2, zU] [] M
def w_X12_oneMoment_111 (E : zEv) (D : Nat) (post : Int32 → zM → Prop) (px : String → zM → Prop)  (s0 : Int32) (M : zM) : Prop := Z E jX12_oneMoment (D + 1) 0 (zQi post px) 111 0 [zU, zU, zU, zU] [.int s0] M
theorem e_X12_oneMoment {E : zEv} {D : Nat} {post : Int32 → zM → Prop} {px : String → zM → Prop} {M : zM} {x1 : Int32}  (h : zCv E jX12_allFall D 0 [.ref 0] M (fun M1 => ((¬ x1 = 0 → w_X12_oneMoment_35 E D post px x1 M1) ∧ (x1 = 0 → zCi E jX12_drawn D 0 [.ref 0, .int (100 : Int32)] M1 (fun r8 M6 => (((M6.1 1 ((9 : Int32)).toNatClampNeg) ≤ r8 → w_X12_oneMoment_35 E D post px x1 M6) ∧ (¬ (M6.1 1 ((9 : Int32)).toNatClampNeg) ≤ r8 → zCi E jX12_questions D 0 [.ref 0] M6 (fun r14 M12 => ((r14 ≤ 0 → w_X12_oneMoment_35 E D post px x1 M12) ∧ (¬ r14 ≤ 0 → w_X12_oneMoment_36 E D post px x1 (1 : Int32) M12))) px))) px))) px) : zCi E jX12_oneMoment (D + 1) 0 [.ref 0, .int x1] M post px := by
  refine z_meth (by decide) (Nat.le_of_ble_eq_true rfl) ?_
  show Z E jX12_oneMoment (D + 1) 0 (zQi post px) 0 0 [.ref 0, .int x1, zU, zU] [] M
  refine z_aload_n dX12_oneMoment_0 rfl ?_
  refine z_callVv (As := []) (st := []) dX12_oneMoment_1 zi_X12_339 rfl rfl zs_0 rfl rfl (Nat.le_of_ble_eq_true rfl) (by decide) (fun _ _ hx => hx) h ?_
  intro M1 h2
  refine z_iload_n dX12_oneMoment_4 rfl ?_
  refine z_if_ne (tgt := 35) dX12_oneMoment_5 (by decide) (fun g3 => ?_) (fun g3 => ?_)
  · have h4 := h2.1 g3
    exact h4
  · have h5 := h2.2 g3
    refine z_aload_n dX12_oneMoment_8 rfl ?_
    refine z_bipush (v := (100 : Int32)) dX12_oneMoment_9 rfl ?_
    refine z_callVi (As := [.int (100 : Int32)]) (st := []) dX12_oneMoment_11 zi_X12_336 rfl rfl zs_0 rfl rfl (Nat.le_of_ble_eq_true rfl) (by decide) (fun _ _ hx => hx) h5 ?_
    intro r8 M6 h7
    refine z_aload_n dX12_oneMoment_14 rfl ?_
    refine z_getR dX12_oneMoment_15 zg_X12_13 zs_0 rfl ?_
    refine z_bipush (v := (9 : Int32)) dX12_oneMoment_18 rfl ?_
    refine z_iald dX12_oneMoment_20 zs_1 (by unfold vp_in; decide) ?_
    refine z_icmp_ge (tgt := 35) dX12_oneMoment_21 (by decide) (fun g9 => ?_) (fun g9 => ?_)
    · have h10 := h7.1 g9
      exact h10
    · have h11 := h7.2 g9
      refine z_aload_n dX12_oneMoment_24 rfl ?_
      refine z_callVi (As := []) (st := []) dX12_oneMoment_25 zi_X12_99 rfl rfl zs_0 rfl rfl (Nat.le_of_ble_eq_true rfl) (by decide) (fun _ _ hx => hx) h11 ?_
      intro r14 M12 h13
      refine z_if_le (tgt := 35) dX12_oneMoment_28 (by decide) (fun g15 => ?_) (fun g15 => ?_)
      · have h16 := h13.1 g15
        exact h16
      · have h17 := h13.2 g15
        refine z_iconst (v := (1 : Int32)) dX12_oneMoment_31 rfl ?_
        refine z_goto (tgt := 36) dX12_oneMoment_32 (by decide) ?_
        exact h17
theorem t_X12_oneMoment_35 {E : zEv} {D : Nat} {post : Int32 → zM → Prop} {px : String → zM → Prop} {M : zM}   {y1 : Int32} (h : w_X12_oneMoment_36 E D post px y1 (0 : Int32) M) : w_X12_oneMoment_35 E D post px y1 M := by
  show Z E jX12_oneMoment (D + 1) 0 (zQi post px) 35 0 [.ref 0, .int y1, zU, zU] [] M
  refine z_iconst (v := (0 : Int32)) dX12_oneMoment_35 rfl ?_
  exact h
theorem t_X12_oneMoment_36 {E : zEv} {D : Nat} {post : Int32 → zM → Prop} {px : String → zM → Prop} {M : zM}   {y1 : Int32} {s0 : Int32} (h : ((s0 = 0 → w_X12_oneMoment_55 E D post px y1 s0 M) ∧ (¬ s0 = 0 → zCi E jX12_questions D 0 [.ref 0] M (fun r6 M4 => zCi E jX12_drawn D 0 [.ref 0, .int r6] M4 (fun r9 M7 => zCi E jX12_isSaid D 0 [.ref 0, .int r9, .int (1 : Int32)] M7 (fun r12 M10 => w_X12_oneMoment_55 E D post px y1 s0 M10) px) px) px))) : w_X12_oneMoment_36 E D post px y1 s0 M := by
  show Z E jX12_oneMoment (D + 1) 0 (zQi post px) 36 0 [.ref 0, .int y1, zU, zU] [.int s0] M
  refine z_istore_n dX12_oneMoment_36 (by decide) (ls' := [.ref 0, .int y1, .int s0, zU]) rfl ?_
  refine z_iload_n dX12_oneMoment_37 rfl ?_
  refine z_if_eq (tgt := 55) dX12_oneMoment_38 (by decide) (fun g1 => ?_) (fun g1 => ?_)
  · have h2 := h.1 g1
    exact h2
  · have h3 := h.2 g1
    refine z_aload_n dX12_oneMoment_41 rfl ?_
    refine z_aload_n dX12_oneMoment_42 rfl ?_
    refine z_aload_n dX12_oneMoment_43 rfl ?_
    refine z_callVi (As := []) (st := [.ref 0, .ref 0]) dX12_oneMoment_44 zi_X12_99 rfl rfl zs_0 rfl rfl (Nat.le_of_ble_eq_true rfl) (by decide) (fun _ _ hx => hx) h3 ?_
    intro r6 M4 h5
    refine z_callVi (As := [.int r6]) (st := [.ref 0]) dX12_oneMoment_47 zi_X12_336 rfl rfl zs_0 rfl rfl (Nat.le_of_ble_eq_true rfl) (by decide) (fun _ _ hx => hx) h5 ?_
    intro r9 M7 h8
    refine z_iconst (v := (1 : Int32)) dX12_oneMoment_50 rfl ?_
    refine z_callVi (As := [.int r9, .int (1 : Int32)]) (st := []) dX12_oneMoment_51 zi_X12_342 rfl rfl zs_0 rfl rfl (Nat.le_of_ble_eq_true rfl) (by decide) (fun _ _ hx => hx) h8 ?_
    intro r12 M10 h11
    refine z_pop dX12_oneMoment_54 rfl ?_
    exact h11
theorem t_X12_oneMoment_55 {E : zEv} {D : Nat} {post : Int32 → zM → Prop} {px : String → zM → Prop} {M : zM}   {y1 : Int32} {y2 : Int32} (h : w_X12_oneMoment_57 E D post px y1 y2 (0 : Int32) M) : w_X12_oneMoment_55 E D post px y1 y2 M := by
  show Z E jX12_oneMoment (D + 1) 0 (zQi post px) 55 0 [.ref 0, .int y1, .int y2, zU] [] M
  refine z_iconst (v := (0 : Int32)) dX12_oneMoment_55 rfl ?_
  refine z_istore_n dX12_oneMoment_56 (by decide) (ls' := [.ref 0, .int y1, .int y2, .int (0 : Int32)]) rfl ?_
  exact h
theorem t_X12_oneMoment_57 {E : zEv} {D : Nat} {post : Int32 → zM → Prop} {px : String → zM → Prop} {M : zM}   {y1 : Int32} {y2 : Int32} {y3 : Int32} (h : zCi E jX12_witnesses D 0 [.ref 0] M (fun r3 M1 => ((r3 ≤ y3 → w_X12_oneMoment_80 E D post px y2 M1) ∧ (¬ r3 ≤ y3 → ((¬ y1 = 0 → w_X12_oneMoment_80 E D post px y2 M1) ∧ (y1 = 0 → zCv E jX12_blushes D 0 [.ref 0, .int y3] M1 (fun M10 => w_X12_oneMoment_57 E D post px y1 y2 (y3 + (1 : Int32)) M10) px))))) px) : w_X12_oneMoment_57 E D post px y1 y2 y3 M := by
  show Z E jX12_oneMoment (D + 1) 0 (zQi post px) 57 0 [.ref 0, .int y1, .int y2, .int y3] [] M
  refine z_iload_n dX12_oneMoment_57 rfl ?_
  refine z_aload_n dX12_oneMoment_58 rfl ?_
  refine z_callVi (As := []) (st := [.int y3]) dX12_oneMoment_59 zi_X12_92 rfl rfl zs_0 rfl rfl (Nat.le_of_ble_eq_true rfl) (by decide) (fun _ _ hx => hx) h ?_
  intro r3 M1 h2
  refine z_icmp_ge (tgt := 80) dX12_oneMoment_62 (by decide) (fun g4 => ?_) (fun g4 => ?_)
  · have h5 := h2.1 g4
    refine z_weak [true, false, true, false] (ls' := [.ref 0, zU, .int y2, zU]) rfl rfl ?_
    exact h5
  · have h6 := h2.2 g4
    refine z_iload_n dX12_oneMoment_65 rfl ?_
    refine z_if_ne (tgt := 80) dX12_oneMoment_66 (by decide) (fun g7 => ?_) (fun g7 => ?_)
    · have h8 := h6.1 g7
      refine z_weak [true, false, true, false] (ls' := [.ref 0, zU, .int y2, zU]) rfl rfl ?_
      exact h8
    · have h9 := h6.2 g7
      refine z_aload_n dX12_oneMoment_69 rfl ?_
      refine z_iload_n dX12_oneMoment_70 rfl ?_
      refine z_callVv (As := [.int y3]) (st := []) dX12_oneMoment_71 zi_X12_345 rfl rfl zs_0 rfl rfl (Nat.le_of_ble_eq_true rfl) (by decide) (fun _ _ hx => hx) h9 ?_
      intro M10 h11
      refine z_iinc dX12_oneMoment_74 rfl (by decide) (ls' := [.ref 0, .int y1, .int y2, .int (y3 + (1 : Int32))]) rfl ?_
      refine z_goto (tgt := 57) dX12_oneMoment_77 (by decide) ?_
      exact h11
theorem t_X12_oneMoment_80 {E : zEv} {D : Nat} {post : Int32 → zM → Prop} {px : String → zM → Prop} {M : zM}   {y2 : Int32} (h : ∀ M1 : zM, M1 = zup M 1 ((6 : Int32)).toNatClampNeg (zmin (9999 : Int32) ((M.1 1 ((6 : Int32)).toNatClampNeg) + (1 : Int32))) → ((y2 = 0 → w_X12_oneMoment_111 E D post px (0 : Int32) M1) ∧ (¬ y2 = 0 → w_X12_oneMoment_111 E D post px (1 : Int32) M1))) : w_X12_oneMoment_80 E D post px y2 M := by
  show Z E jX12_oneMoment (D + 1) 0 (zQi post px) 80 0 [.ref 0, zU, .int y2, zU] [] M
  refine z_aload_n dX12_oneMoment_80 rfl ?_
  refine z_getR dX12_oneMoment_81 zg_X12_13 zs_0 rfl ?_
  refine z_bipush (v := (6 : Int32)) dX12_oneMoment_84 rfl ?_
  refine z_sipush (v := (9999 : Int32)) dX12_oneMoment_86 rfl ?_
  refine z_aload_n dX12_oneMoment_89 rfl ?_
  refine z_getR dX12_oneMoment_90 zg_X12_13 zs_0 rfl ?_
  refine z_bipush (v := (6 : Int32)) dX12_oneMoment_93 rfl ?_
  refine z_iald dX12_oneMoment_95 zs_1 (by unfold vp_in; decide) ?_
  refine z_iconst (v := (1 : Int32)) dX12_oneMoment_96 rfl ?_
  refine z_iadd dX12_oneMoment_97 ?_
  refine z_min dX12_oneMoment_98 zm_X12_310 (Nat.le_of_ble_eq_true rfl) (by decide) ?_
  refine z_iast dX12_oneMoment_101 zs_1 (by unfold vp_in; decide) ?_
  generalize hhM1 : zup M 1 ((6 : Int32)).toNatClampNeg (zmin (9999 : Int32) ((M.1 1 ((6 : Int32)).toNatClampNeg) + (1 : Int32))) = M1
  have h2 := h M1 hhM1.symm
  refine z_iload_n dX12_oneMoment_102 rfl ?_
  refine z_if_eq (tgt := 110) dX12_oneMoment_103 (by decide) (fun g3 => ?_) (fun g3 => ?_)
  · have h4 := h2.1 g3
    refine z_iconst (v := (0 : Int32)) dX12_oneMoment_110 rfl ?_
    refine z_weak [false, false, false, false] (ls' := [zU, zU, zU, zU]) rfl rfl ?_
    exact h4
  · have h5 := h2.2 g3
    refine z_iconst (v := (1 : Int32)) dX12_oneMoment_106 rfl ?_
    refine z_goto (tgt := 111) dX12_oneMoment_107 (by decide) ?_
    refine z_weak [false, false, false, false] (ls' := [zU, zU, zU, zU]) rfl rfl ?_
    exact h5
theorem t_X12_oneMoment_111 {E : zEv} {D : Nat} {post : Int32 → zM → Prop} {px : String → zM → Prop} {M : zM}   {s0 : Int32} (h : post s0 M) : w_X12_oneMoment_111 E D post px s0 M := by
  show Z E jX12_oneMoment (D + 1) 0 (zQi post px) 111 0 [zU, zU, zU, zU] [.int s0] M
  exact z_iret dX12_oneMoment_111 rfl rfl (by decide) h
def w_X12_goesOn_5 (E : zEv) (D : Nat) (post : Int32 → zM → Prop) (px : String → zM → Prop)  (y1 : Int32) (y2 : Int32) (y3 : Int32) (y4 : Int32) (M : zM) : Prop := Z E jX12_goesOn (D + 1) 0 (zQi post px) 5 0 [.ref 0, .int y1, .int y2, .int y3, .int y4] [] M
theorem e_X12_goesOn {E : zEv} {D : Nat} {post : Int32 → zM → Prop} {px : String → zM → Prop} {M : zM} {x1 : Int32} {x2 : Int32}  (h : w_X12_goesOn_5 E D post px x1 x2 (0 : Int32) (0 : Int32) M) : zCi E jX12_goesOn (D + 1) 0 [.ref 0, .int x1, .int x2] M post px := by
  refine z_meth (by decide) (Nat.le_of_ble_eq_true rfl) ?_
  show Z E jX12_goesOn (D + 1) 0 (zQi post px) 0 0 [.ref 0, .int x1, .int x2, zU, zU] [] M
  refine z_iconst (v := (0 : Int32)) dX12_goesOn_0 rfl ?_
  refine z_istore_n dX12_goesOn_1 (by decide) (ls' := [.ref 0, .int x1, .int x2, .int (0 : Int32), zU]) rfl ?_
  refine z_iconst (v := (0 : Int32)) dX12_goesOn_2 rfl ?_
  refine z_istore dX12_goesOn_3 (by decide) (ls' := [.ref 0, .int x1, .int x2, .int (0 : Int32), .int (0 : Int32)]) rfl ?_
  exact h
theorem t_X12_goesOn_5 {E : zEv} {D : Nat} {post : Int32 → zM → Prop} {px : String → zM → Prop} {M : zM}   {y1 : Int32} {y2 : Int32} {y3 : Int32} {y4 : Int32} (h : ((y1 ≤ y4 → post y3 M) ∧ (¬ y1 ≤ y4 → zCi E jX12_oneMoment D 0 [.ref 0, .int y2] M (fun r6 M4 => w_X12_goesOn_5 E D post px y1 y2 (y3 + r6) (y4 + (1 : Int32)) M4) px))) : w_X12_goesOn_5 E D post px y1 y2 y3 y4 M := by
  show Z E jX12_goesOn (D + 1) 0 (zQi post px) 5 0 [.ref 0, .int y1, .int y2, .int y3, .int y4] [] M
  refine z_iload dX12_goesOn_5 rfl ?_
  refine z_iload_n dX12_goesOn_7 rfl ?_
  refine z_icmp_ge (tgt := 25) dX12_goesOn_8 (by decide) (fun g1 => ?_) (fun g1 => ?_)
  · have h2 := h.1 g1
    refine z_iload_n dX12_goesOn_25 rfl ?_
    exact z_iret dX12_goesOn_26 rfl rfl (by decide) h2
  · have h3 := h.2 g1
    refine z_iload_n dX12_goesOn_11 rfl ?_
    refine z_aload_n dX12_goesOn_12 rfl ?_
    refine z_iload_n dX12_goesOn_13 rfl ?_
    refine z_callVi (As := [.int y2]) (st := [.int y3]) dX12_goesOn_14 zi_X12_348 rfl rfl zs_0 rfl rfl (Nat.le_of_ble_eq_true rfl) (by decide) (fun _ _ hx => hx) h3 ?_
    intro r6 M4 h5
    refine z_iadd dX12_goesOn_17 ?_
    refine z_istore_n dX12_goesOn_18 (by decide) (ls' := [.ref 0, .int y1, .int y2, .int (y3 + r6), .int y4]) rfl ?_
    refine z_iinc dX12_goesOn_19 rfl (by decide) (ls' := [.ref 0, .int y1, .int y2, .int (y3 + r6), .int (y4 + (1 : Int32))]) rfl ?_
    refine z_goto (tgt := 5) dX12_goesOn_22 (by decide) ?_
    exact h5
def w_X12_moments_21 (E : zEv) (D : Nat) (post : Int32 → zM → Prop) (px : String → zM → Prop)  (y1 : Int32) (s0 : Int32) (M : zM) : Prop := Z E jX12_moments (D + 1) 0 (zQi post px) 21 0 [.ref 0, .int y1] [.int s0, .ref 0] M
theorem e_X12_moments {E : zEv} {D : Nat} {post : Int32 → zM → Prop} {px : String → zM → Prop} {M : zM} {x1 : Int32}  (h : ∀ M1 : zM, M1 = zup M 0 0 (0 : Int32) → zCi E jX12_in D 0 [.int x1, .int (1 : Int32), .int (60 : Int32)] M1 (fun r5 M3 => ((¬ r5 = 0 → w_X12_moments_21 E D post px x1 (0 : Int32) M3) ∧ (r5 = 0 → w_X12_moments_21 E D post px x1 (1 : Int32) M3))) px) : zCi E jX12_moments (D + 1) 0 [.ref 0, .int x1] M post px := by
  refine z_meth (by decide) (Nat.le_of_ble_eq_true rfl) ?_
  show Z E jX12_moments (D + 1) 0 (zQi post px) 0 0 [.ref 0, .int x1] [] M
  refine z_aload_n dX12_moments_0 rfl ?_
  refine z_iconst (v := (0 : Int32)) dX12_moments_1 rfl ?_
  refine z_putI dX12_moments_2 zp_X12_3 zs_0 rfl rfl rfl ?_
  generalize hhM1 : zup M 0 0 (0 : Int32) = M1
  have h2 := h M1 hhM1.symm
  refine z_aload_n dX12_moments_5 rfl ?_
  refine z_iload_n dX12_moments_6 rfl ?_
  refine z_iconst (v := (1 : Int32)) dX12_moments_7 rfl ?_
  refine z_bipush (v := (60 : Int32)) dX12_moments_8 rfl ?_
  refine z_callSi (As := [.int x1, .int (1 : Int32), .int (60 : Int32)]) (st := [.ref 0]) dX12_moments_10 zi_X12_95 rfl rfl (Nat.le_of_ble_eq_true rfl) (by decide) (fun _ _ hx => hx) h2 ?_
  intro r5 M3 h4
  refine z_if_ne (tgt := 20) dX12_moments_13 (by decide) (fun g6 => ?_) (fun g6 => ?_)
  · have h7 := h4.1 g6
    refine z_iconst (v := (0 : Int32)) dX12_moments_20 rfl ?_
    exact h7
  · have h8 := h4.2 g6
    refine z_iconst (v := (1 : Int32)) dX12_moments_16 rfl ?_
    refine z_goto (tgt := 21) dX12_moments_17 (by decide) ?_
    exact h8
theorem t_X12_moments_21 {E : zEv} {D : Nat} {post : Int32 → zM → Prop} {px : String → zM → Prop} {M : zM}   {y1 : Int32} {s0 : Int32} (h : zCi E jX12_throwsIf D 0 [.ref 0, .int s0, .int (1 : Int32)] M (fun r3 M1 => ((r3 = 0 → zCv E jX12_remembers D 0 [.ref 0] M1 (fun M7 => zCi E jX12_goesOn D 0 [.ref 0, .int y1, .int (0 : Int32)] M7 (fun r11 M9 => post r11 M9) px) px) ∧ (¬ r3 = 0 → post (0 : Int32) M1))) px) : w_X12_moments_21 E D post px y1 s0 M := by
  show Z E jX12_moments (D + 1) 0 (zQi post px) 21 0 [.ref 0, .int y1] [.int s0, .ref 0] M
  refine z_iconst (v := (1 : Int32)) dX12_moments_21 rfl ?_
  refine z_callVi (As := [.int s0, .int (1 : Int32)]) (st := []) dX12_moments_22 zi_X12_282 rfl rfl zs_0 rfl rfl (Nat.le_of_ble_eq_true rfl) (by decide) (fun _ _ hx => hx) h ?_
  intro r3 M1 h2
  refine z_if_eq (tgt := 30) dX12_moments_25 (by decide) (fun g4 => ?_) (fun g4 => ?_)
  · have h5 := h2.1 g4
    refine z_aload_n dX12_moments_30 rfl ?_
    refine z_callVv (As := []) (st := []) dX12_moments_31 zi_X12_351 rfl rfl zs_0 rfl rfl (Nat.le_of_ble_eq_true rfl) (by decide) (fun _ _ hx => hx) h5 ?_
    intro M7 h8
    refine z_aload_n dX12_moments_34 rfl ?_
    refine z_iload_n dX12_moments_35 rfl ?_
    refine z_iconst (v := (0 : Int32)) dX12_moments_36 rfl ?_
    refine z_callVi (As := [.int y1, .int (0 : Int32)]) (st := []) dX12_moments_37 zi_X12_354 rfl rfl zs_0 rfl rfl (Nat.le_of_ble_eq_true rfl) (by decide) (fun _ _ hx => hx) h8 ?_
    intro r11 M9 h10
    exact z_iret dX12_moments_40 rfl rfl (by decide) h10
  · have h6 := h2.2 g4
    refine z_iconst (v := (0 : Int32)) dX12_moments_28 rfl ?_
    exact z_iret dX12_moments_29 rfl rfl (by decide) h6
def w_X12_shadesOfAll_4 (E : zEv) (D : Nat) (post : Int32 → zM → Prop) (px : String → zM → Prop)  (y1 : Int32) (y2 : Int32) (M : zM) : Prop := Z E jX12_shadesOfAll (D + 1) 0 (zQi post px) 4 0 [.ref 0, .int y1, .int y2] [] M
theorem e_X12_shadesOfAll {E : zEv} {D : Nat} {post : Int32 → zM → Prop} {px : String → zM → Prop} {M : zM}   (h : w_X12_shadesOfAll_4 E D post px (0 : Int32) (0 : Int32) M) : zCi E jX12_shadesOfAll (D + 1) 0 [.ref 0] M post px := by
  refine z_meth (by decide) (Nat.le_of_ble_eq_true rfl) ?_
  show Z E jX12_shadesOfAll (D + 1) 0 (zQi post px) 0 0 [.ref 0, zU, zU] [] M
  refine z_iconst (v := (0 : Int32)) dX12_shadesOfAll_0 rfl ?_
  refine z_istore_n dX12_shadesOfAll_1 (by decide) (ls' := [.ref 0, .int (0 : Int32), zU]) rfl ?_
  refine z_iconst (v := (0 : Int32)) dX12_shadesOfAll_2 rfl ?_
  refine z_istore_n dX12_shadesOfAll_3 (by decide) (ls' := [.ref 0, .int (0 : Int32), .int (0 : Int32)]) rfl ?_
  exact h
theorem t_X12_shadesOfAll_4 {E : zEv} {D : Nat} {post : Int32 → zM → Prop} {px : String → zM → Prop} {M : zM}   {y1 : Int32} {y2 : Int32} (h : zCi E jX12_witnesses D 0 [.ref 0] M (fun r3 M1 => ((r3 ≤ y2 → post y1 M1) ∧ (¬ r3 ≤ y2 → zCi E jX12_of D 0 [.ref 0, .int y2, .int (3 : Int32)] M1 (fun r9 M7 => w_X12_shadesOfAll_4 E D post px (y1 + r9) (y2 + (1 : Int32)) M7) px))) px) : w_X12_shadesOfAll_4 E D post px y1 y2 M := by
  show Z E jX12_shadesOfAll (D + 1) 0 (zQi post px) 4 0 [.ref 0, .int y1, .int y2] [] M
  refine z_iload_n dX12_shadesOfAll_4 rfl ?_
  refine z_aload_n dX12_shadesOfAll_5 rfl ?_
  refine z_callVi (As := []) (st := [.int y2]) dX12_shadesOfAll_6 zi_X12_92 rfl rfl zs_0 rfl rfl (Nat.le_of_ble_eq_true rfl) (by decide) (fun _ _ hx => hx) h ?_
  intro r3 M1 h2
  refine z_icmp_ge (tgt := 27) dX12_shadesOfAll_9 (by decide) (fun g4 => ?_) (fun g4 => ?_)
  · have h5 := h2.1 g4
    refine z_iload_n dX12_shadesOfAll_27 rfl ?_
    exact z_iret dX12_shadesOfAll_28 rfl rfl (by decide) h5
  · have h6 := h2.2 g4
    refine z_iload_n dX12_shadesOfAll_12 rfl ?_
    refine z_aload_n dX12_shadesOfAll_13 rfl ?_
    refine z_iload_n dX12_shadesOfAll_14 rfl ?_
    refine z_iconst (v := (3 : Int32)) dX12_shadesOfAll_15 rfl ?_
    refine z_callVi (As := [.int y2, .int (3 : Int32)]) (st := [.int y1]) dX12_shadesOfAll_16 zi_X12_285 rfl rfl zs_0 rfl rfl (Nat.le_of_ble_eq_true rfl) (by decide) (fun _ _ hx => hx) h6 ?_
    intro r9 M7 h8
    refine z_iadd dX12_shadesOfAll_19 ?_
    refine z_istore_n dX12_shadesOfAll_20 (by decide) (ls' := [.ref 0, .int (y1 + r9), .int y2]) rfl ?_
    refine z_iinc dX12_shadesOfAll_21 rfl (by decide) (ls' := [.ref 0, .int (y1 + r9), .int (y2 + (1 : Int32))]) rfl ?_
    refine z_goto (tgt := 4) dX12_shadesOfAll_24 (by decide) ?_
    exact h8
def w_X12_touchedOf_4 (E : zEv) (D : Nat) (post : Int32 → zM → Prop) (px : String → zM → Prop)  (y1 : Int32) (y2 : Int32) (y3 : Int32) (M : zM) : Prop := Z E jX12_touchedOf (D + 1) 0 (zQi post px) 4 0 [.ref 0, .int y1, .int y2, .int y3] [] M
def w_X12_touchedOf_33 (E : zEv) (D : Nat) (post : Int32 → zM → Prop) (px : String → zM → Prop)  (y1 : Int32) (y3 : Int32) (s0 : Int32) (s1 : Int32) (M : zM) : Prop := Z E jX12_touchedOf (D + 1) 0 (zQi post px) 33 0 [.ref 0, .int y1, zU, .int y3] [.int s0, .int s1] M
theorem e_X12_touchedOf {E : zEv} {D : Nat} {post : Int32 → zM → Prop} {px : String → zM → Prop} {M : zM} {x1 : Int32}  (h : w_X12_touchedOf_4 E D post px x1 (0 : Int32) (0 : Int32) M) : zCi E jX12_touchedOf (D + 1) 0 [.ref 0, .int x1] M post px := by
  refine z_meth (by decide) (Nat.le_of_ble_eq_true rfl) ?_
  show Z E jX12_touchedOf (D + 1) 0 (zQi post px) 0 0 [.ref 0, .int x1, zU, zU] [] M
  refine z_iconst (v := (0 : Int32)) dX12_touchedOf_0 rfl ?_
  refine z_istore_n dX12_touchedOf_1 (by decide) (ls' := [.ref 0, .int x1, .int (0 : Int32), zU]) rfl ?_
  refine z_iconst (v := (0 : Int32)) dX12_touchedOf_2 rfl ?_
  refine z_istore_n dX12_touchedOf_3 (by decide) (ls' := [.ref 0, .int x1, .int (0 : Int32), .int (0 : Int32)]) rfl ?_
  exact h
theorem t_X12_touchedOf_4 {E : zEv} {D : Nat} {post : Int32 → zM → Prop} {px : String → zM → Prop} {M : zM}   {y1 : Int32} {y2 : Int32} {y3 : Int32} (h : zCi E jX12_things D 0 [.ref 0] M (fun r3 M1 => ((r3 ≤ y3 → post y2 M1) ∧ (¬ r3 ≤ y3 → zCi E jX12_ofThing D 0 [.ref 0, .int y3, .int (1 : Int32)] M1 (fun r9 M7 => zCi E jX12_has D 0 [.int r9, .int y1] M7 (fun r12 M10 => ((r12 = 0 → w_X12_touchedOf_33 E D post px y1 y3 (0 : Int32) y2 M10) ∧ (¬ r12 = 0 → w_X12_touchedOf_33 E D post px y1 y3 ((1 : Int32) <<< (y3 &&& 31)) y2 M10))) px) px))) px) : w_X12_touchedOf_4 E D post px y1 y2 y3 M := by
  show Z E jX12_touchedOf (D + 1) 0 (zQi post px) 4 0 [.ref 0, .int y1, .int y2, .int y3] [] M
  refine z_iload_n dX12_touchedOf_4 rfl ?_
  refine z_aload_n dX12_touchedOf_5 rfl ?_
  refine z_callVi (As := []) (st := [.int y3]) dX12_touchedOf_6 zi_X12_85 rfl rfl zs_0 rfl rfl (Nat.le_of_ble_eq_true rfl) (by decide) (fun _ _ hx => hx) h ?_
  intro r3 M1 h2
  refine z_icmp_ge (tgt := 41) dX12_touchedOf_9 (by decide) (fun g4 => ?_) (fun g4 => ?_)
  · have h5 := h2.1 g4
    refine z_iload_n dX12_touchedOf_41 rfl ?_
    exact z_iret dX12_touchedOf_42 rfl rfl (by decide) h5
  · have h6 := h2.2 g4
    refine z_iload_n dX12_touchedOf_12 rfl ?_
    refine z_aload_n dX12_touchedOf_13 rfl ?_
    refine z_iload_n dX12_touchedOf_14 rfl ?_
    refine z_iconst (v := (1 : Int32)) dX12_touchedOf_15 rfl ?_
    refine z_callVi (As := [.int y3, .int (1 : Int32)]) (st := [.int y2]) dX12_touchedOf_16 zi_X12_89 rfl rfl zs_0 rfl rfl (Nat.le_of_ble_eq_true rfl) (by decide) (fun _ _ hx => hx) h6 ?_
    intro r9 M7 h8
    refine z_iload_n dX12_touchedOf_19 rfl ?_
    refine z_callSi (As := [.int r9, .int y1]) (st := [.int y2]) dX12_touchedOf_20 zi_X12_147 rfl rfl (Nat.le_of_ble_eq_true rfl) (by decide) (fun _ _ hx => hx) h8 ?_
    intro r12 M10 h11
    refine z_if_eq (tgt := 32) dX12_touchedOf_23 (by decide) (fun g13 => ?_) (fun g13 => ?_)
    · have h14 := h11.1 g13
      refine z_iconst (v := (0 : Int32)) dX12_touchedOf_32 rfl ?_
      refine z_weak [true, true, false, true] (ls' := [.ref 0, .int y1, zU, .int y3]) rfl rfl ?_
      exact h14
    · have h15 := h11.2 g13
      refine z_iconst (v := (1 : Int32)) dX12_touchedOf_26 rfl ?_
      refine z_iload_n dX12_touchedOf_27 rfl ?_
      refine z_ishl dX12_touchedOf_28 ?_
      refine z_goto (tgt := 33) dX12_touchedOf_29 (by decide) ?_
      refine z_weak [true, true, false, true] (ls' := [.ref 0, .int y1, zU, .int y3]) rfl rfl ?_
      exact h15
theorem t_X12_touchedOf_33 {E : zEv} {D : Nat} {post : Int32 → zM → Prop} {px : String → zM → Prop} {M : zM}   {y1 : Int32} {y3 : Int32} {s0 : Int32} {s1 : Int32} (h : w_X12_touchedOf_4 E D post px y1 (s1 ||| s0) (y3 + (1 : Int32)) M) : w_X12_touchedOf_33 E D post px y1 y3 s0 s1 M := by
  show Z E jX12_touchedOf (D + 1) 0 (zQi post px) 33 0 [.ref 0, .int y1, zU, .int y3] [.int s0, .int s1] M
  refine z_ior dX12_touchedOf_33 ?_
  refine z_istore_n dX12_touchedOf_34 (by decide) (ls' := [.ref 0, .int y1, .int (s1 ||| s0), .int y3]) rfl ?_
  refine z_iinc dX12_touchedOf_35 rfl (by decide) (ls' := [.ref 0, .int y1, .int (s1 ||| s0), .int (y3 + (1 : Int32))]) rfl ?_
  refine z_goto (tgt := 4) dX12_touchedOf_38 (by decide) ?_
  exact h
theorem e_X12_readBy {E : zEv} {D : Nat} {post : Int32 → zM → Prop} {px : String → zM → Prop} {M : zM} {x1 : Int32} {x2 : Int32}  (h : vp_in ((20 : Int32) + x1) 2070 ∧ ¬ (M.1 1 (((20 : Int32) + x1)).toNatClampNeg) = 0 ∧ vp_in ((20 : Int32) + x1) 2070 ∧ post ((x2 / (M.1 1 (((20 : Int32) + x1)).toNatClampNeg)) * (M.1 1 (((20 : Int32) + x1)).toNatClampNeg)) M) : zCi E jX12_readBy D 0 [.ref 0, .int x1, .int x2] M post px := by
  refine z_meth (by decide) (Nat.le_of_ble_eq_true rfl) ?_
  show Z E jX12_readBy D 0 (zQi post px) 0 0 [.ref 0, .int x1, .int x2] [] M
  refine z_iload_n dX12_readBy_0 rfl ?_
  refine z_aload_n dX12_readBy_1 rfl ?_
  refine z_getR dX12_readBy_2 zg_X12_13 zs_0 rfl ?_
  refine z_bipush (v := (20 : Int32)) dX12_readBy_5 rfl ?_
  refine z_iload_n dX12_readBy_7 rfl ?_
  refine z_iadd dX12_readBy_8 ?_
  obtain ⟨g2, h1⟩ := h
  refine z_iald dX12_readBy_9 zs_1 g2 ?_
  obtain ⟨g4, h3⟩ := h1
  refine z_idiv dX12_readBy_10 g4 ?_
  refine z_aload_n dX12_readBy_11 rfl ?_
  refine z_getR dX12_readBy_12 zg_X12_13 zs_0 rfl ?_
  refine z_bipush (v := (20 : Int32)) dX12_readBy_15 rfl ?_
  refine z_iload_n dX12_readBy_17 rfl ?_
  refine z_iadd dX12_readBy_18 ?_
  obtain ⟨g6, h5⟩ := h3
  refine z_iald dX12_readBy_19 zs_1 g6 ?_
  refine z_imul dX12_readBy_20 ?_
  exact z_iret dX12_readBy_21 rfl rfl (by decide) h5
def w_X12_wouldSee_37 (E : zEv) (D : Nat) (post : Int32 → zM → Prop) (px : String → zM → Prop)  (s0 : Int32) (M : zM) : Prop := Z E jX12_wouldSee (D + 1) 0 (zQi post px) 37 0 [zU, zU, zU, zU] [.int s0] M
theorem e_X12_wouldSee {E : zEv} {D : Nat} {post : Int32 → zM → Prop} {px : String → zM → Prop} {M : zM} {x1 : Int32} {x2 : Int32} {x3 : Int32}  (h : zCi E jX12_of D 0 [.ref 0, .int x2, .int (3 : Int32)] M (fun r3 M1 => zCi E jX12_readBy D 0 [.ref 0, .int x1, .int (zmin (99 : Int32) (r3 + x3))] M1 (fun r6 M4 => zCi E jX12_of D 0 [.ref 0, .int x2, .int (3 : Int32)] M4 (fun r9 M7 => zCi E jX12_readBy D 0 [.ref 0, .int x1, .int r9] M7 (fun r12 M10 => ((r6 ≤ r12 → w_X12_wouldSee_37 E D post px (0 : Int32) M10) ∧ (¬ r6 ≤ r12 → w_X12_wouldSee_37 E D post px (1 : Int32) M10))) px) px) px) px) : zCi E jX12_wouldSee (D + 1) 0 [.ref 0, .int x1, .int x2, .int x3] M post px := by
  refine z_meth (by decide) (Nat.le_of_ble_eq_true rfl) ?_
  show Z E jX12_wouldSee (D + 1) 0 (zQi post px) 0 0 [.ref 0, .int x1, .int x2, .int x3] [] M
  refine z_aload_n dX12_wouldSee_0 rfl ?_
  refine z_iload_n dX12_wouldSee_1 rfl ?_
  refine z_bipush (v := (99 : Int32)) dX12_wouldSee_2 rfl ?_
  refine z_aload_n dX12_wouldSee_4 rfl ?_
  refine z_iload_n dX12_wouldSee_5 rfl ?_
  refine z_iconst (v := (3 : Int32)) dX12_wouldSee_6 rfl ?_
  refine z_callVi (As := [.int x2, .int (3 : Int32)]) (st := [.int (99 : Int32), .int x1, .ref 0]) dX12_wouldSee_7 zi_X12_285 rfl rfl zs_0 rfl rfl (Nat.le_of_ble_eq_true rfl) (by decide) (fun _ _ hx => hx) h ?_
  intro r3 M1 h2
  refine z_iload_n dX12_wouldSee_10 rfl ?_
  refine z_iadd dX12_wouldSee_11 ?_
  refine z_min dX12_wouldSee_12 zm_X12_310 (Nat.le_of_ble_eq_true rfl) (by decide) ?_
  refine z_callVi (As := [.int x1, .int (zmin (99 : Int32) (r3 + x3))]) (st := []) dX12_wouldSee_15 zi_X12_358 rfl rfl zs_0 rfl rfl (Nat.le_of_ble_eq_true rfl) (by decide) (fun _ _ hx => hx) h2 ?_
  intro r6 M4 h5
  refine z_aload_n dX12_wouldSee_18 rfl ?_
  refine z_iload_n dX12_wouldSee_19 rfl ?_
  refine z_aload_n dX12_wouldSee_20 rfl ?_
  refine z_iload_n dX12_wouldSee_21 rfl ?_
  refine z_iconst (v := (3 : Int32)) dX12_wouldSee_22 rfl ?_
  refine z_callVi (As := [.int x2, .int (3 : Int32)]) (st := [.int x1, .ref 0, .int r6]) dX12_wouldSee_23 zi_X12_285 rfl rfl zs_0 rfl rfl (Nat.le_of_ble_eq_true rfl) (by decide) (fun _ _ hx => hx) h5 ?_
  intro r9 M7 h8
  refine z_callVi (As := [.int x1, .int r9]) (st := [.int r6]) dX12_wouldSee_26 zi_X12_358 rfl rfl zs_0 rfl rfl (Nat.le_of_ble_eq_true rfl) (by decide) (fun _ _ hx => hx) h8 ?_
  intro r12 M10 h11
  refine z_icmp_le (tgt := 36) dX12_wouldSee_29 (by decide) (fun g13 => ?_) (fun g13 => ?_)
  · have h14 := h11.1 g13
    refine z_iconst (v := (0 : Int32)) dX12_wouldSee_36 rfl ?_
    refine z_weak [false, false, false, false] (ls' := [zU, zU, zU, zU]) rfl rfl ?_
    exact h14
  · have h15 := h11.2 g13
    refine z_iconst (v := (1 : Int32)) dX12_wouldSee_32 rfl ?_
    refine z_goto (tgt := 37) dX12_wouldSee_33 (by decide) ?_
    refine z_weak [false, false, false, false] (ls' := [zU, zU, zU, zU]) rfl rfl ?_
    exact h15
theorem t_X12_wouldSee_37 {E : zEv} {D : Nat} {post : Int32 → zM → Prop} {px : String → zM → Prop} {M : zM}   {s0 : Int32} (h : (s0 = 0 ∨ s0 = 1) ∧ post s0 M) : w_X12_wouldSee_37 E D post px s0 M := by
  show Z E jX12_wouldSee (D + 1) 0 (zQi post px) 37 0 [zU, zU, zU, zU] [.int s0] M
  obtain ⟨g2, h1⟩ := h
  exact z_iret dX12_wouldSee_37 rfl (zbool g2) (by decide) h1
def w_X12_someSees_5 (E : zEv) (D : Nat) (post : Int32 → zM → Prop) (px : String → zM → Prop)  (y1 : Int32) (y2 : Int32) (y3 : Int32) (y4 : Int32) (M : zM) : Prop := Z E jX12_someSees (D + 1) 0 (zQi post px) 5 0 [.ref 0, .int y1, .int y2, .int y3, .int y4] [] M
def w_X12_someSees_29 (E : zEv) (D : Nat) (post : Int32 → zM → Prop) (px : String → zM → Prop)  (y1 : Int32) (y2 : Int32) (y4 : Int32) (M : zM) : Prop := Z E jX12_someSees (D + 1) 0 (zQi post px) 29 0 [.ref 0, .int y1, .int y2, zU, .int y4] [] M
def w_X12_someSees_34 (E : zEv) (D : Nat) (post : Int32 → zM → Prop) (px : String → zM → Prop)  (y1 : Int32) (y2 : Int32) (y4 : Int32) (s0 : Int32) (M : zM) : Prop := Z E jX12_someSees (D + 1) 0 (zQi post px) 34 0 [.ref 0, .int y1, .int y2, zU, .int y4] [.int s0] M
theorem e_X12_someSees {E : zEv} {D : Nat} {post : Int32 → zM → Prop} {px : String → zM → Prop} {M : zM} {x1 : Int32} {x2 : Int32}  (h : w_X12_someSees_5 E D post px x1 x2 (0 : Int32) (0 : Int32) M) : zCi E jX12_someSees (D + 1) 0 [.ref 0, .int x1, .int x2] M post px := by
  refine z_meth (by decide) (Nat.le_of_ble_eq_true rfl) ?_
  show Z E jX12_someSees (D + 1) 0 (zQi post px) 0 0 [.ref 0, .int x1, .int x2, zU, zU] [] M
  refine z_iconst (v := (0 : Int32)) dX12_someSees_0 rfl ?_
  refine z_istore_n dX12_someSees_1 (by decide) (ls' := [.ref 0, .int x1, .int x2, .int (0 : Int32), zU]) rfl ?_
  refine z_iconst (v := (0 : Int32)) dX12_someSees_2 rfl ?_
  refine z_istore dX12_someSees_3 (by decide) (ls' := [.ref 0, .int x1, .int x2, .int (0 : Int32), .int (0 : Int32)]) rfl ?_
  exact h
theorem t_X12_someSees_5 {E : zEv} {D : Nat} {post : Int32 → zM → Prop} {px : String → zM → Prop} {M : zM}   {y1 : Int32} {y2 : Int32} {y3 : Int32} {y4 : Int32} (h : zCi E jX12_women D 0 [.ref 0] M (fun r3 M1 => ((r3 ≤ y4 → (y3 = 0 ∨ y3 = 1) ∧ post y3 M1) ∧ (¬ r3 ≤ y4 → ((¬ y3 = 0 → w_X12_someSees_29 E D post px y1 y2 y4 M1) ∧ (y3 = 0 → zCi E jX12_wouldSee D 0 [.ref 0, .int y4, .int y1, .int y2] M1 (fun r14 M12 => ((r14 = 0 → w_X12_someSees_34 E D post px y1 y2 y4 (0 : Int32) M12) ∧ (¬ r14 = 0 → w_X12_someSees_29 E D post px y1 y2 y4 M12))) px))))) px) : w_X12_someSees_5 E D post px y1 y2 y3 y4 M := by
  show Z E jX12_someSees (D + 1) 0 (zQi post px) 5 0 [.ref 0, .int y1, .int y2, .int y3, .int y4] [] M
  refine z_iload dX12_someSees_5 rfl ?_
  refine z_aload_n dX12_someSees_7 rfl ?_
  refine z_callVi (As := []) (st := [.int y4]) dX12_someSees_8 zi_X12_102 rfl rfl zs_0 rfl rfl (Nat.le_of_ble_eq_true rfl) (by decide) (fun _ _ hx => hx) h ?_
  intro r3 M1 h2
  refine z_icmp_ge (tgt := 41) dX12_someSees_11 (by decide) (fun g4 => ?_) (fun g4 => ?_)
  · have h5 := h2.1 g4
    refine z_iload_n dX12_someSees_41 rfl ?_
    obtain ⟨g8, h7⟩ := h5
    exact z_iret dX12_someSees_42 rfl (zbool g8) (by decide) h7
  · have h6 := h2.2 g4
    refine z_iload_n dX12_someSees_14 rfl ?_
    refine z_if_ne (tgt := 29) dX12_someSees_15 (by decide) (fun g9 => ?_) (fun g9 => ?_)
    · have h10 := h6.1 g9
      refine z_weak [true, true, true, false, true] (ls' := [.ref 0, .int y1, .int y2, zU, .int y4]) rfl rfl ?_
      exact h10
    · have h11 := h6.2 g9
      refine z_aload_n dX12_someSees_18 rfl ?_
      refine z_iload dX12_someSees_19 rfl ?_
      refine z_iload_n dX12_someSees_21 rfl ?_
      refine z_iload_n dX12_someSees_22 rfl ?_
      refine z_callVi (As := [.int y4, .int y1, .int y2]) (st := []) dX12_someSees_23 zi_X12_361 rfl rfl zs_0 rfl rfl (Nat.le_of_ble_eq_true rfl) (by decide) (fun _ _ hx => hx) h11 ?_
      intro r14 M12 h13
      refine z_if_eq (tgt := 33) dX12_someSees_26 (by decide) (fun g15 => ?_) (fun g15 => ?_)
      · have h16 := h13.1 g15
        refine z_iconst (v := (0 : Int32)) dX12_someSees_33 rfl ?_
        refine z_weak [true, true, true, false, true] (ls' := [.ref 0, .int y1, .int y2, zU, .int y4]) rfl rfl ?_
        exact h16
      · have h17 := h13.2 g15
        refine z_weak [true, true, true, false, true] (ls' := [.ref 0, .int y1, .int y2, zU, .int y4]) rfl rfl ?_
        exact h17
theorem t_X12_someSees_29 {E : zEv} {D : Nat} {post : Int32 → zM → Prop} {px : String → zM → Prop} {M : zM}   {y1 : Int32} {y2 : Int32} {y4 : Int32} (h : w_X12_someSees_34 E D post px y1 y2 y4 (1 : Int32) M) : w_X12_someSees_29 E D post px y1 y2 y4 M := by
  show Z E jX12_someSees (D + 1) 0 (zQi post px) 29 0 [.ref 0, .int y1, .int y2, zU, .int y4] [] M
  refine z_iconst (v := (1 : Int32)) dX12_someSees_29 rfl ?_
  refine z_goto (tgt := 34) dX12_someSees_30 (by decide) ?_
  exact h
theorem t_X12_someSees_34 {E : zEv} {D : Nat} {post : Int32 → zM → Prop} {px : String → zM → Prop} {M : zM}   {y1 : Int32} {y2 : Int32} {y4 : Int32} {s0 : Int32} (h : w_X12_someSees_5 E D post px y1 y2 s0 (y4 + (1 : Int32)) M) : w_X12_someSees_34 E D post px y1 y2 y4 s0 M := by
  show Z E jX12_someSees (D + 1) 0 (zQi post px) 34 0 [.ref 0, .int y1, .int y2, zU, .int y4] [.int s0] M
  refine z_istore_n dX12_someSees_34 (by decide) (ls' := [.ref 0, .int y1, .int y2, .int s0, .int y4]) rfl ?_
  refine z_iinc dX12_someSees_35 rfl (by decide) (ls' := [.ref 0, .int y1, .int y2, .int s0, .int (y4 + (1 : Int32))]) rfl ?_
  refine z_goto (tgt := 5) dX12_someSees_38 (by decide) ?_
  exact h
def w_X12_foundOut_4 (E : zEv) (D : Nat) (post : Int32 → zM → Prop) (px : String → zM → Prop)  (y1 : Int32) (y2 : Int32) (y3 : Int32) (M : zM) : Prop := Z E jX12_foundOut (D + 1) 0 (zQi post px) 4 0 [.ref 0, .int y1, .int y2, .int y3] [] M
def w_X12_foundOut_34 (E : zEv) (D : Nat) (post : Int32 → zM → Prop) (px : String → zM → Prop)  (y1 : Int32) (y3 : Int32) (s0 : Int32) (s1 : Int32) (M : zM) : Prop := Z E jX12_foundOut (D + 1) 0 (zQi post px) 34 0 [.ref 0, .int y1, zU, .int y3] [.int s0, .int s1] M
theorem e_X12_foundOut {E : zEv} {D : Nat} {post : Int32 → zM → Prop} {px : String → zM → Prop} {M : zM} {x1 : Int32}  (h : w_X12_foundOut_4 E D post px x1 (0 : Int32) (0 : Int32) M) : zCi E jX12_foundOut (D + 1) 0 [.ref 0, .int x1] M post px := by
  refine z_meth (by decide) (Nat.le_of_ble_eq_true rfl) ?_
  show Z E jX12_foundOut (D + 1) 0 (zQi post px) 0 0 [.ref 0, .int x1, zU, zU] [] M
  refine z_iconst (v := (0 : Int32)) dX12_foundOut_0 rfl ?_
  refine z_istore_n dX12_foundOut_1 (by decide) (ls' := [.ref 0, .int x1, .int (0 : Int32), zU]) rfl ?_
  refine z_iconst (v := (0 : Int32)) dX12_foundOut_2 rfl ?_
  refine z_istore_n dX12_foundOut_3 (by decide) (ls' := [.ref 0, .int x1, .int (0 : Int32), .int (0 : Int32)]) rfl ?_
  exact h
theorem t_X12_foundOut_4 {E : zEv} {D : Nat} {post : Int32 → zM → Prop} {px : String → zM → Prop} {M : zM}   {y1 : Int32} {y2 : Int32} {y3 : Int32} (h : zCi E jX12_questions D 0 [.ref 0] M (fun r3 M1 => ((r3 ≤ y3 → post y2 M1) ∧ (¬ r3 ≤ y3 → zCi E jX12_risesBy D 0 [.ref 0, .int y3, .int y1] M1 (fun r9 M7 => zCi E jX12_someSees D 0 [.ref 0, .int y1, .int r9] M7 (fun r12 M10 => ((r12 = 0 → w_X12_foundOut_34 E D post px y1 y3 (0 : Int32) y2 M10) ∧ (¬ r12 = 0 → w_X12_foundOut_34 E D post px y1 y3 ((1 : Int32) <<< (y3 &&& 31)) y2 M10))) px) px))) px) : w_X12_foundOut_4 E D post px y1 y2 y3 M := by
  show Z E jX12_foundOut (D + 1) 0 (zQi post px) 4 0 [.ref 0, .int y1, .int y2, .int y3] [] M
  refine z_iload_n dX12_foundOut_4 rfl ?_
  refine z_aload_n dX12_foundOut_5 rfl ?_
  refine z_callVi (As := []) (st := [.int y3]) dX12_foundOut_6 zi_X12_99 rfl rfl zs_0 rfl rfl (Nat.le_of_ble_eq_true rfl) (by decide) (fun _ _ hx => hx) h ?_
  intro r3 M1 h2
  refine z_icmp_ge (tgt := 42) dX12_foundOut_9 (by decide) (fun g4 => ?_) (fun g4 => ?_)
  · have h5 := h2.1 g4
    refine z_iload_n dX12_foundOut_42 rfl ?_
    exact z_iret dX12_foundOut_43 rfl rfl (by decide) h5
  · have h6 := h2.2 g4
    refine z_iload_n dX12_foundOut_12 rfl ?_
    refine z_aload_n dX12_foundOut_13 rfl ?_
    refine z_iload_n dX12_foundOut_14 rfl ?_
    refine z_aload_n dX12_foundOut_15 rfl ?_
    refine z_iload_n dX12_foundOut_16 rfl ?_
    refine z_iload_n dX12_foundOut_17 rfl ?_
    refine z_callVi (As := [.int y3, .int y1]) (st := [.int y1, .ref 0, .int y2]) dX12_foundOut_18 zi_X12_364 rfl rfl zs_0 rfl rfl (Nat.le_of_ble_eq_true rfl) (by decide) (fun _ _ hx => hx) h6 ?_
    intro r9 M7 h8
    refine z_callVi (As := [.int y1, .int r9]) (st := [.int y2]) dX12_foundOut_21 zi_X12_367 rfl rfl zs_0 rfl rfl (Nat.le_of_ble_eq_true rfl) (by decide) (fun _ _ hx => hx) h8 ?_
    intro r12 M10 h11
    refine z_if_eq (tgt := 33) dX12_foundOut_24 (by decide) (fun g13 => ?_) (fun g13 => ?_)
    · have h14 := h11.1 g13
      refine z_iconst (v := (0 : Int32)) dX12_foundOut_33 rfl ?_
      refine z_weak [true, true, false, true] (ls' := [.ref 0, .int y1, zU, .int y3]) rfl rfl ?_
      exact h14
    · have h15 := h11.2 g13
      refine z_iconst (v := (1 : Int32)) dX12_foundOut_27 rfl ?_
      refine z_iload_n dX12_foundOut_28 rfl ?_
      refine z_ishl dX12_foundOut_29 ?_
      refine z_goto (tgt := 34) dX12_foundOut_30 (by decide) ?_
      refine z_weak [true, true, false, true] (ls' := [.ref 0, .int y1, zU, .int y3]) rfl rfl ?_
      exact h15
theorem t_X12_foundOut_34 {E : zEv} {D : Nat} {post : Int32 → zM → Prop} {px : String → zM → Prop} {M : zM}   {y1 : Int32} {y3 : Int32} {s0 : Int32} {s1 : Int32} (h : w_X12_foundOut_4 E D post px y1 (s1 ||| s0) (y3 + (1 : Int32)) M) : w_X12_foundOut_34 E D post px y1 y3 s0 s1 M := by
  show Z E jX12_foundOut (D + 1) 0 (zQi post px) 34 0 [.ref 0, .int y1, zU, .int y3] [.int s0, .int s1] M
  refine z_ior dX12_foundOut_34 ?_
  refine z_istore_n dX12_foundOut_35 (by decide) (ls' := [.ref 0, .int y1, .int (s1 ||| s0), .int y3]) rfl ?_
  refine z_iinc dX12_foundOut_36 rfl (by decide) (ls' := [.ref 0, .int y1, .int (s1 ||| s0), .int (y3 + (1 : Int32))]) rfl ?_
  refine z_goto (tgt := 4) dX12_foundOut_39 (by decide) ?_
  exact h
def w_X12_witness_41 (E : zEv) (D : Nat) (post : Int32 → zM → Prop) (px : String → zM → Prop)   (M : zM) : Prop := Z E jX12_witness (D + 1) 0 (zQi post px) 41 0 [zU, zU, zU] [] M
def w_X12_witness_34 (E : zEv) (D : Nat) (post : Int32 → zM → Prop) (px : String → zM → Prop)  (y1 : Int32) (y2 : Int32) (s0 : Int32) (M : zM) : Prop := Z E jX12_witness (D + 1) 0 (zQi post px) 34 0 [.ref 0, .int y1, .int y2] [.int s0, .ref 0] M
def w_X12_witness_107 (E : zEv) (D : Nat) (post : Int32 → zM → Prop) (px : String → zM → Prop)  (s0 : Int32) (M : zM) : Prop := Z E jX12_witness (D + 1) 0 (zQi post px) 107 0 [zU, zU, zU] [.int s0] M
theorem e_X12_witness {E : zEv} {D : Nat} {post : Int32 → zM → Prop} {px : String → zM → Prop} {M : zM} {x1 : Int32} {x2 : Int32}  (h : ∀ M1 : zM, M1 = zup M 0 0 (0 : Int32) → zCi E jX12_noWitness D 0 [.ref 0, .int x1] M1 (fun r5 M3 => zCi E jX12_throwsIf D 0 [.ref 0, .int r5, .int (1 : Int32)] M3 (fun r8 M6 => ((¬ r8 = 0 → w_X12_witness_41 E D post px  M6) ∧ (r8 = 0 → zCi E jX12_in D 0 [.int x2, .int (0 : Int32), .int (8 : Int32)] M6 (fun r14 M12 => ((¬ r14 = 0 → w_X12_witness_34 E D post px x1 x2 (0 : Int32) M12) ∧ (r14 = 0 → w_X12_witness_34 E D post px x1 x2 (1 : Int32) M12))) px))) px) px) : zCi E jX12_witness (D + 1) 0 [.ref 0, .int x1, .int x2] M post px := by
  refine z_meth (by decide) (Nat.le_of_ble_eq_true rfl) ?_
  show Z E jX12_witness (D + 1) 0 (zQi post px) 0 0 [.ref 0, .int x1, .int x2] [] M
  refine z_aload_n dX12_witness_0 rfl ?_
  refine z_iconst (v := (0 : Int32)) dX12_witness_1 rfl ?_
  refine z_putI dX12_witness_2 zp_X12_3 zs_0 rfl rfl rfl ?_
  generalize hhM1 : zup M 0 0 (0 : Int32) = M1
  have h2 := h M1 hhM1.symm
  refine z_aload_n dX12_witness_5 rfl ?_
  refine z_aload_n dX12_witness_6 rfl ?_
  refine z_iload_n dX12_witness_7 rfl ?_
  refine z_callVi (As := [.int x1]) (st := [.ref 0]) dX12_witness_8 zi_X12_370 rfl rfl zs_0 rfl rfl (Nat.le_of_ble_eq_true rfl) (by decide) (fun _ _ hx => hx) h2 ?_
  intro r5 M3 h4
  refine z_iconst (v := (1 : Int32)) dX12_witness_11 rfl ?_
  refine z_callVi (As := [.int r5, .int (1 : Int32)]) (st := []) dX12_witness_12 zi_X12_282 rfl rfl zs_0 rfl rfl (Nat.le_of_ble_eq_true rfl) (by decide) (fun _ _ hx => hx) h4 ?_
  intro r8 M6 h7
  refine z_if_ne (tgt := 41) dX12_witness_15 (by decide) (fun g9 => ?_) (fun g9 => ?_)
  · have h10 := h7.1 g9
    refine z_weak [false, false, false] (ls' := [zU, zU, zU]) rfl rfl ?_
    exact h10
  · have h11 := h7.2 g9
    refine z_aload_n dX12_witness_18 rfl ?_
    refine z_iload_n dX12_witness_19 rfl ?_
    refine z_iconst (v := (0 : Int32)) dX12_witness_20 rfl ?_
    refine z_bipush (v := (8 : Int32)) dX12_witness_21 rfl ?_
    refine z_callSi (As := [.int x2, .int (0 : Int32), .int (8 : Int32)]) (st := [.ref 0]) dX12_witness_23 zi_X12_95 rfl rfl (Nat.le_of_ble_eq_true rfl) (by decide) (fun _ _ hx => hx) h11 ?_
    intro r14 M12 h13
    refine z_if_ne (tgt := 33) dX12_witness_26 (by decide) (fun g15 => ?_) (fun g15 => ?_)
    · have h16 := h13.1 g15
      refine z_iconst (v := (0 : Int32)) dX12_witness_33 rfl ?_
      exact h16
    · have h17 := h13.2 g15
      refine z_iconst (v := (1 : Int32)) dX12_witness_29 rfl ?_
      refine z_goto (tgt := 34) dX12_witness_30 (by decide) ?_
      exact h17
theorem t_X12_witness_41 {E : zEv} {D : Nat} {post : Int32 → zM → Prop} {px : String → zM → Prop} {M : zM}    (h : post (0 : Int32) M) : w_X12_witness_41 E D post px  M := by
  show Z E jX12_witness (D + 1) 0 (zQi post px) 41 0 [zU, zU, zU] [] M
  refine z_iconst (v := (0 : Int32)) dX12_witness_41 rfl ?_
  exact z_iret dX12_witness_42 rfl rfl (by decide) h
theorem t_X12_witness_34 {E : zEv} {D : Nat} {post : Int32 → zM → Prop} {px : String → zM → Prop} {M : zM}   {y1 : Int32} {y2 : Int32} {s0 : Int32} (h : zCi E jX12_throwsIf D 0 [.ref 0, .int s0, .int (2 : Int32)] M (fun r3 M1 => ((r3 = 0 → ((y2 = (5 : Int32) → zCi E jX12_fallsBy D 0 [.ref 0, .int y1] M1 (fun r11 M9 => post r11 M9) px) ∧ (¬ y2 = (5 : Int32) → ((y2 = (6 : Int32) → zCi E jX12_shadesOfAll D 0 [.ref 0] M1 (fun r17 M15 => ((¬ r17 = 0 → zCi E jX12_of D 0 [.ref 0, .int y1, .int (3 : Int32)] M15 (fun r23 M21 => zCi E jX12_shadesOfAll D 0 [.ref 0] M21 (fun r26 M24 => ¬ r26 = 0 ∧ w_X12_witness_107 E D post px (((100 : Int32) * r23) / r26) M24) px) px) ∧ (r17 = 0 → w_X12_witness_107 E D post px (0 : Int32) M15))) px) ∧ (¬ y2 = (6 : Int32) → ((y2 = (7 : Int32) → zCi E jX12_touchedOf D 0 [.ref 0, .int y1] M1 (fun r34 M32 => post r34 M32) px) ∧ (¬ y2 = (7 : Int32) → ((y2 = (8 : Int32) → zCi E jX12_foundOut D 0 [.ref 0, .int y1] M1 (fun r40 M38 => post r40 M38) px) ∧ (¬ y2 = (8 : Int32) → zCi E jX12_of D 0 [.ref 0, .int y1, .int y2] M1 (fun r44 M42 => post r44 M42) px))))))))) ∧ (¬ r3 = 0 → w_X12_witness_41 E D post px  M1))) px) : w_X12_witness_34 E D post px y1 y2 s0 M := by
  show Z E jX12_witness (D + 1) 0 (zQi post px) 34 0 [.ref 0, .int y1, .int y2] [.int s0, .ref 0] M
  refine z_iconst (v := (2 : Int32)) dX12_witness_34 rfl ?_
  refine z_callVi (As := [.int s0, .int (2 : Int32)]) (st := []) dX12_witness_35 zi_X12_282 rfl rfl zs_0 rfl rfl (Nat.le_of_ble_eq_true rfl) (by decide) (fun _ _ hx => hx) h ?_
  intro r3 M1 h2
  refine z_if_eq (tgt := 43) dX12_witness_38 (by decide) (fun g4 => ?_) (fun g4 => ?_)
  · have h5 := h2.1 g4
    refine z_iload_n dX12_witness_43 rfl ?_
    by_cases g7 : y2 = (5 : Int32)
    · have h8 := h5.1 g7
      refine z_tableIn (tgt := 76) dX12_witness_44 (by rw [g7]; decide) (by rw [g7]; decide) (by rw [g7]; rfl) (by decide) ?_
      refine z_aload_n dX12_witness_76 rfl ?_
      refine z_iload_n dX12_witness_77 rfl ?_
      refine z_callVi (As := [.int y1]) (st := []) dX12_witness_78 zi_X12_333 rfl rfl zs_0 rfl rfl (Nat.le_of_ble_eq_true rfl) (by decide) (fun _ _ hx => hx) h8 ?_
      intro r11 M9 h10
      exact z_iret dX12_witness_81 rfl rfl (by decide) h10
    have h12 := h5.2 g7
    by_cases g13 : y2 = (6 : Int32)
    · have h14 := h12.1 g13
      refine z_tableIn (tgt := 82) dX12_witness_44 (by rw [g13]; decide) (by rw [g13]; decide) (by rw [g13]; rfl) (by decide) ?_
      refine z_aload_n dX12_witness_82 rfl ?_
      refine z_callVi (As := []) (st := []) dX12_witness_83 zi_X12_373 rfl rfl zs_0 rfl rfl (Nat.le_of_ble_eq_true rfl) (by decide) (fun _ _ hx => hx) h14 ?_
      intro r17 M15 h16
      refine z_if_ne (tgt := 93) dX12_witness_86 (by decide) (fun g18 => ?_) (fun g18 => ?_)
      · have h19 := h16.1 g18
        refine z_bipush (v := (100 : Int32)) dX12_witness_93 rfl ?_
        refine z_aload_n dX12_witness_95 rfl ?_
        refine z_iload_n dX12_witness_96 rfl ?_
        refine z_iconst (v := (3 : Int32)) dX12_witness_97 rfl ?_
        refine z_callVi (As := [.int y1, .int (3 : Int32)]) (st := [.int (100 : Int32)]) dX12_witness_98 zi_X12_285 rfl rfl zs_0 rfl rfl (Nat.le_of_ble_eq_true rfl) (by decide) (fun _ _ hx => hx) h19 ?_
        intro r23 M21 h22
        refine z_imul dX12_witness_101 ?_
        refine z_aload_n dX12_witness_102 rfl ?_
        refine z_callVi (As := []) (st := [.int ((100 : Int32) * r23)]) dX12_witness_103 zi_X12_373 rfl rfl zs_0 rfl rfl (Nat.le_of_ble_eq_true rfl) (by decide) (fun _ _ hx => hx) h22 ?_
        intro r26 M24 h25
        obtain ⟨g28, h27⟩ := h25
        refine z_idiv dX12_witness_106 g28 ?_
        refine z_weak [false, false, false] (ls' := [zU, zU, zU]) rfl rfl ?_
        exact h27
      · have h20 := h16.2 g18
        refine z_iconst (v := (0 : Int32)) dX12_witness_89 rfl ?_
        refine z_goto (tgt := 107) dX12_witness_90 (by decide) ?_
        refine z_weak [false, false, false] (ls' := [zU, zU, zU]) rfl rfl ?_
        exact h20
    have h29 := h12.2 g13
    by_cases g30 : y2 = (7 : Int32)
    · have h31 := h29.1 g30
      refine z_tableIn (tgt := 108) dX12_witness_44 (by rw [g30]; decide) (by rw [g30]; decide) (by rw [g30]; rfl) (by decide) ?_
      refine z_aload_n dX12_witness_108 rfl ?_
      refine z_iload_n dX12_witness_109 rfl ?_
      refine z_callVi (As := [.int y1]) (st := []) dX12_witness_110 zi_X12_376 rfl rfl zs_0 rfl rfl (Nat.le_of_ble_eq_true rfl) (by decide) (fun _ _ hx => hx) h31 ?_
      intro r34 M32 h33
      exact z_iret dX12_witness_113 rfl rfl (by decide) h33
    have h35 := h29.2 g30
    by_cases g36 : y2 = (8 : Int32)
    · have h37 := h35.1 g36
      refine z_tableIn (tgt := 114) dX12_witness_44 (by rw [g36]; decide) (by rw [g36]; decide) (by rw [g36]; rfl) (by decide) ?_
      refine z_aload_n dX12_witness_114 rfl ?_
      refine z_iload_n dX12_witness_115 rfl ?_
      refine z_callVi (As := [.int y1]) (st := []) dX12_witness_116 zi_X12_379 rfl rfl zs_0 rfl rfl (Nat.le_of_ble_eq_true rfl) (by decide) (fun _ _ hx => hx) h37 ?_
      intro r40 M38 h39
      exact z_iret dX12_witness_119 rfl rfl (by decide) h39
    have h41 := h35.2 g36
    refine z_tableOut (tgt := 120) dX12_witness_44 (by have := zne_toInt g7 (by decide : ((5 : Int32)).toInt = 5); have := zne_toInt g13 (by decide : ((6 : Int32)).toInt = 6); have := zne_toInt g30 (by decide : ((7 : Int32)).toInt = 7); have := zne_toInt g36 (by decide : ((8 : Int32)).toInt = 8); omega) (by decide) ?_
    refine z_aload_n dX12_witness_120 rfl ?_
    refine z_iload_n dX12_witness_121 rfl ?_
    refine z_iload_n dX12_witness_122 rfl ?_
    refine z_callVi (As := [.int y1, .int y2]) (st := []) dX12_witness_123 zi_X12_285 rfl rfl zs_0 rfl rfl (Nat.le_of_ble_eq_true rfl) (by decide) (fun _ _ hx => hx) h41 ?_
    intro r44 M42 h43
    exact z_iret dX12_witness_126 rfl rfl (by decide) h43
  · have h6 := h2.2 g4
    refine z_weak [false, false, false] (ls' := [zU, zU, zU]) rfl rfl ?_
    exact h6
theorem t_X12_witness_107 {E : zEv} {D : Nat} {post : Int32 → zM → Prop} {px : String → zM → Prop} {M : zM}   {s0 : Int32} (h : post s0 M) : w_X12_witness_107 E D post px s0 M := by
  show Z E jX12_witness (D + 1) 0 (zQi post px) 107 0 [zU, zU, zU] [.int s0] M
  exact z_iret dX12_witness_107 rfl rfl (by decide) h
def w_X12_saying_4 (E : zEv) (D : Nat) (post : Int32 → zM → Prop) (px : String → zM → Prop)  (y1 : Int32) (y2 : Int32) (y3 : Int32) (M : zM) : Prop := Z E jX12_saying (D + 1) 0 (zQi post px) 4 0 [.ref 0, .int y1, .int y2, .int y3] [] M
def w_X12_saying_36 (E : zEv) (D : Nat) (post : Int32 → zM → Prop) (px : String → zM → Prop)  (y1 : Int32) (y3 : Int32) (s0 : Int32) (s1 : Int32) (M : zM) : Prop := Z E jX12_saying (D + 1) 0 (zQi post px) 36 0 [.ref 0, .int y1, zU, .int y3] [.int s0, .int s1] M
theorem e_X12_saying {E : zEv} {D : Nat} {post : Int32 → zM → Prop} {px : String → zM → Prop} {M : zM} {x1 : Int32}  (h : w_X12_saying_4 E D post px x1 (0 : Int32) (0 : Int32) M) : zCi E jX12_saying (D + 1) 0 [.ref 0, .int x1] M post px := by
  refine z_meth (by decide) (Nat.le_of_ble_eq_true rfl) ?_
  show Z E jX12_saying (D + 1) 0 (zQi post px) 0 0 [.ref 0, .int x1, zU, zU] [] M
  refine z_iconst (v := (0 : Int32)) dX12_saying_0 rfl ?_
  refine z_istore_n dX12_saying_1 (by decide) (ls' := [.ref 0, .int x1, .int (0 : Int32), zU]) rfl ?_
  refine z_iconst (v := (0 : Int32)) dX12_saying_2 rfl ?_
  refine z_istore_n dX12_saying_3 (by decide) (ls' := [.ref 0, .int x1, .int (0 : Int32), .int (0 : Int32)]) rfl ?_
  exact h
theorem t_X12_saying_4 {E : zEv} {D : Nat} {post : Int32 → zM → Prop} {px : String → zM → Prop} {M : zM}   {y1 : Int32} {y2 : Int32} {y3 : Int32} (h : zCi E jX12_questions D 0 [.ref 0] M (fun r3 M1 => ((r3 ≤ y3 → post y2 M1) ∧ (¬ r3 ≤ y3 → vp_in ((12 : Int32) + y3) 2070 ∧ zCi E jX12_has D 0 [.int (M1.1 1 (((12 : Int32) + y3)).toNatClampNeg), .int y1] M1 (fun r11 M9 => ((r11 = 0 → w_X12_saying_36 E D post px y1 y3 (0 : Int32) y2 M9) ∧ (¬ r11 = 0 → w_X12_saying_36 E D post px y1 y3 ((1 : Int32) <<< (y3 &&& 31)) y2 M9))) px))) px) : w_X12_saying_4 E D post px y1 y2 y3 M := by
  show Z E jX12_saying (D + 1) 0 (zQi post px) 4 0 [.ref 0, .int y1, .int y2, .int y3] [] M
  refine z_iload_n dX12_saying_4 rfl ?_
  refine z_aload_n dX12_saying_5 rfl ?_
  refine z_callVi (As := []) (st := [.int y3]) dX12_saying_6 zi_X12_99 rfl rfl zs_0 rfl rfl (Nat.le_of_ble_eq_true rfl) (by decide) (fun _ _ hx => hx) h ?_
  intro r3 M1 h2
  refine z_icmp_ge (tgt := 44) dX12_saying_9 (by decide) (fun g4 => ?_) (fun g4 => ?_)
  · have h5 := h2.1 g4
    refine z_iload_n dX12_saying_44 rfl ?_
    exact z_iret dX12_saying_45 rfl rfl (by decide) h5
  · have h6 := h2.2 g4
    refine z_iload_n dX12_saying_12 rfl ?_
    refine z_aload_n dX12_saying_13 rfl ?_
    refine z_getR dX12_saying_14 zg_X12_13 zs_0 rfl ?_
    refine z_bipush (v := (12 : Int32)) dX12_saying_17 rfl ?_
    refine z_iload_n dX12_saying_19 rfl ?_
    refine z_iadd dX12_saying_20 ?_
    obtain ⟨g8, h7⟩ := h6
    refine z_iald dX12_saying_21 zs_1 g8 ?_
    refine z_iload_n dX12_saying_22 rfl ?_
    refine z_callSi (As := [.int (M1.1 1 (((12 : Int32) + y3)).toNatClampNeg), .int y1]) (st := [.int y2]) dX12_saying_23 zi_X12_147 rfl rfl (Nat.le_of_ble_eq_true rfl) (by decide) (fun _ _ hx => hx) h7 ?_
    intro r11 M9 h10
    refine z_if_eq (tgt := 35) dX12_saying_26 (by decide) (fun g12 => ?_) (fun g12 => ?_)
    · have h13 := h10.1 g12
      refine z_iconst (v := (0 : Int32)) dX12_saying_35 rfl ?_
      refine z_weak [true, true, false, true] (ls' := [.ref 0, .int y1, zU, .int y3]) rfl rfl ?_
      exact h13
    · have h14 := h10.2 g12
      refine z_iconst (v := (1 : Int32)) dX12_saying_29 rfl ?_
      refine z_iload_n dX12_saying_30 rfl ?_
      refine z_ishl dX12_saying_31 ?_
      refine z_goto (tgt := 36) dX12_saying_32 (by decide) ?_
      refine z_weak [true, true, false, true] (ls' := [.ref 0, .int y1, zU, .int y3]) rfl rfl ?_
      exact h14
theorem t_X12_saying_36 {E : zEv} {D : Nat} {post : Int32 → zM → Prop} {px : String → zM → Prop} {M : zM}   {y1 : Int32} {y3 : Int32} {s0 : Int32} {s1 : Int32} (h : w_X12_saying_4 E D post px y1 (s1 ||| s0) (y3 + (1 : Int32)) M) : w_X12_saying_36 E D post px y1 y3 s0 s1 M := by
  show Z E jX12_saying (D + 1) 0 (zQi post px) 36 0 [.ref 0, .int y1, zU, .int y3] [.int s0, .int s1] M
  refine z_ior dX12_saying_36 ?_
  refine z_istore_n dX12_saying_37 (by decide) (ls' := [.ref 0, .int y1, .int (s1 ||| s0), .int y3]) rfl ?_
  refine z_iinc dX12_saying_38 rfl (by decide) (ls' := [.ref 0, .int y1, .int (s1 ||| s0), .int (y3 + (1 : Int32))]) rfl ?_
  refine z_goto (tgt := 4) dX12_saying_41 (by decide) ?_
  exact h
def w_X12_thing_40 (E : zEv) (D : Nat) (post : Int32 → zM → Prop) (px : String → zM → Prop)   (M : zM) : Prop := Z E jX12_thing (D + 1) 0 (zQi post px) 40 0 [zU, zU, zU] [] M
def w_X12_thing_33 (E : zEv) (D : Nat) (post : Int32 → zM → Prop) (px : String → zM → Prop)  (y1 : Int32) (y2 : Int32) (s0 : Int32) (M : zM) : Prop := Z E jX12_thing (D + 1) 0 (zQi post px) 33 0 [.ref 0, .int y1, .int y2] [.int s0, .ref 0] M
def w_X12_thing_74 (E : zEv) (D : Nat) (post : Int32 → zM → Prop) (px : String → zM → Prop)  (s0 : Int32) (M : zM) : Prop := Z E jX12_thing (D + 1) 0 (zQi post px) 74 0 [zU, zU, zU] [.int s0] M
theorem e_X12_thing {E : zEv} {D : Nat} {post : Int32 → zM → Prop} {px : String → zM → Prop} {M : zM} {x1 : Int32} {x2 : Int32}  (h : ∀ M1 : zM, M1 = zup M 0 0 (0 : Int32) → zCi E jX12_noThing D 0 [.ref 0, .int x1] M1 (fun r5 M3 => zCi E jX12_throwsIf D 0 [.ref 0, .int r5, .int (1 : Int32)] M3 (fun r8 M6 => ((¬ r8 = 0 → w_X12_thing_40 E D post px  M6) ∧ (r8 = 0 → zCi E jX12_in D 0 [.int x2, .int (0 : Int32), .int (4 : Int32)] M6 (fun r14 M12 => ((¬ r14 = 0 → w_X12_thing_33 E D post px x1 x2 (0 : Int32) M12) ∧ (r14 = 0 → w_X12_thing_33 E D post px x1 x2 (1 : Int32) M12))) px))) px) px) : zCi E jX12_thing (D + 1) 0 [.ref 0, .int x1, .int x2] M post px := by
  refine z_meth (by decide) (Nat.le_of_ble_eq_true rfl) ?_
  show Z E jX12_thing (D + 1) 0 (zQi post px) 0 0 [.ref 0, .int x1, .int x2] [] M
  refine z_aload_n dX12_thing_0 rfl ?_
  refine z_iconst (v := (0 : Int32)) dX12_thing_1 rfl ?_
  refine z_putI dX12_thing_2 zp_X12_3 zs_0 rfl rfl rfl ?_
  generalize hhM1 : zup M 0 0 (0 : Int32) = M1
  have h2 := h M1 hhM1.symm
  refine z_aload_n dX12_thing_5 rfl ?_
  refine z_aload_n dX12_thing_6 rfl ?_
  refine z_iload_n dX12_thing_7 rfl ?_
  refine z_callVi (As := [.int x1]) (st := [.ref 0]) dX12_thing_8 zi_X12_382 rfl rfl zs_0 rfl rfl (Nat.le_of_ble_eq_true rfl) (by decide) (fun _ _ hx => hx) h2 ?_
  intro r5 M3 h4
  refine z_iconst (v := (1 : Int32)) dX12_thing_11 rfl ?_
  refine z_callVi (As := [.int r5, .int (1 : Int32)]) (st := []) dX12_thing_12 zi_X12_282 rfl rfl zs_0 rfl rfl (Nat.le_of_ble_eq_true rfl) (by decide) (fun _ _ hx => hx) h4 ?_
  intro r8 M6 h7
  refine z_if_ne (tgt := 40) dX12_thing_15 (by decide) (fun g9 => ?_) (fun g9 => ?_)
  · have h10 := h7.1 g9
    refine z_weak [false, false, false] (ls' := [zU, zU, zU]) rfl rfl ?_
    exact h10
  · have h11 := h7.2 g9
    refine z_aload_n dX12_thing_18 rfl ?_
    refine z_iload_n dX12_thing_19 rfl ?_
    refine z_iconst (v := (0 : Int32)) dX12_thing_20 rfl ?_
    refine z_iconst (v := (4 : Int32)) dX12_thing_21 rfl ?_
    refine z_callSi (As := [.int x2, .int (0 : Int32), .int (4 : Int32)]) (st := [.ref 0]) dX12_thing_22 zi_X12_95 rfl rfl (Nat.le_of_ble_eq_true rfl) (by decide) (fun _ _ hx => hx) h11 ?_
    intro r14 M12 h13
    refine z_if_ne (tgt := 32) dX12_thing_25 (by decide) (fun g15 => ?_) (fun g15 => ?_)
    · have h16 := h13.1 g15
      refine z_iconst (v := (0 : Int32)) dX12_thing_32 rfl ?_
      exact h16
    · have h17 := h13.2 g15
      refine z_iconst (v := (1 : Int32)) dX12_thing_28 rfl ?_
      refine z_goto (tgt := 33) dX12_thing_29 (by decide) ?_
      exact h17
theorem t_X12_thing_40 {E : zEv} {D : Nat} {post : Int32 → zM → Prop} {px : String → zM → Prop} {M : zM}    (h : post (0 : Int32) M) : w_X12_thing_40 E D post px  M := by
  show Z E jX12_thing (D + 1) 0 (zQi post px) 40 0 [zU, zU, zU] [] M
  refine z_iconst (v := (0 : Int32)) dX12_thing_40 rfl ?_
  exact z_iret dX12_thing_41 rfl rfl (by decide) h
theorem t_X12_thing_33 {E : zEv} {D : Nat} {post : Int32 → zM → Prop} {px : String → zM → Prop} {M : zM}   {y1 : Int32} {y2 : Int32} {s0 : Int32} (h : zCi E jX12_throwsIf D 0 [.ref 0, .int s0, .int (2 : Int32)] M (fun r3 M1 => ((r3 = 0 → ((¬ y2 = (3 : Int32) → ((¬ y2 = (4 : Int32) → zCi E jX12_ofThing D 0 [.ref 0, .int y1, .int y2] M1 (fun r15 M13 => w_X12_thing_74 E D post px r15 M13) px) ∧ (y2 = (4 : Int32) → zCi E jX12_knownBy D 0 [.ref 0, .int y1] M1 (fun r18 M16 => w_X12_thing_74 E D post px r18 M16) px))) ∧ (y2 = (3 : Int32) → zCi E jX12_saying D 0 [.ref 0, .int y1] M1 (fun r21 M19 => w_X12_thing_74 E D post px r21 M19) px))) ∧ (¬ r3 = 0 → w_X12_thing_40 E D post px  M1))) px) : w_X12_thing_33 E D post px y1 y2 s0 M := by
  show Z E jX12_thing (D + 1) 0 (zQi post px) 33 0 [.ref 0, .int y1, .int y2] [.int s0, .ref 0] M
  refine z_iconst (v := (2 : Int32)) dX12_thing_33 rfl ?_
  refine z_callVi (As := [.int s0, .int (2 : Int32)]) (st := []) dX12_thing_34 zi_X12_282 rfl rfl zs_0 rfl rfl (Nat.le_of_ble_eq_true rfl) (by decide) (fun _ _ hx => hx) h ?_
  intro r3 M1 h2
  refine z_if_eq (tgt := 42) dX12_thing_37 (by decide) (fun g4 => ?_) (fun g4 => ?_)
  · have h5 := h2.1 g4
    refine z_iload_n dX12_thing_42 rfl ?_
    refine z_iconst (v := (3 : Int32)) dX12_thing_43 rfl ?_
    refine z_icmp_ne (tgt := 55) dX12_thing_44 (by decide) (fun g7 => ?_) (fun g7 => ?_)
    · have h8 := h5.1 g7
      refine z_iload_n dX12_thing_55 rfl ?_
      refine z_iconst (v := (4 : Int32)) dX12_thing_56 rfl ?_
      refine z_icmp_ne (tgt := 68) dX12_thing_57 (by decide) (fun g10 => ?_) (fun g10 => ?_)
      · have h11 := h8.1 g10
        refine z_aload_n dX12_thing_68 rfl ?_
        refine z_iload_n dX12_thing_69 rfl ?_
        refine z_iload_n dX12_thing_70 rfl ?_
        refine z_callVi (As := [.int y1, .int y2]) (st := []) dX12_thing_71 zi_X12_89 rfl rfl zs_0 rfl rfl (Nat.le_of_ble_eq_true rfl) (by decide) (fun _ _ hx => hx) h11 ?_
        intro r15 M13 h14
        refine z_weak [false, false, false] (ls' := [zU, zU, zU]) rfl rfl ?_
        exact h14
      · have h12 := h8.2 g10
        refine z_aload_n dX12_thing_60 rfl ?_
        refine z_iload_n dX12_thing_61 rfl ?_
        refine z_callVi (As := [.int y1]) (st := []) dX12_thing_62 zi_X12_388 rfl rfl zs_0 rfl rfl (Nat.le_of_ble_eq_true rfl) (by decide) (fun _ _ hx => hx) h12 ?_
        intro r18 M16 h17
        refine z_goto (tgt := 74) dX12_thing_65 (by decide) ?_
        refine z_weak [false, false, false] (ls' := [zU, zU, zU]) rfl rfl ?_
        exact h17
    · have h9 := h5.2 g7
      refine z_aload_n dX12_thing_47 rfl ?_
      refine z_iload_n dX12_thing_48 rfl ?_
      refine z_callVi (As := [.int y1]) (st := []) dX12_thing_49 zi_X12_385 rfl rfl zs_0 rfl rfl (Nat.le_of_ble_eq_true rfl) (by decide) (fun _ _ hx => hx) h9 ?_
      intro r21 M19 h20
      refine z_goto (tgt := 74) dX12_thing_52 (by decide) ?_
      refine z_weak [false, false, false] (ls' := [zU, zU, zU]) rfl rfl ?_
      exact h20
  · have h6 := h2.2 g4
    refine z_weak [false, false, false] (ls' := [zU, zU, zU]) rfl rfl ?_
    exact h6
theorem t_X12_thing_74 {E : zEv} {D : Nat} {post : Int32 → zM → Prop} {px : String → zM → Prop} {M : zM}   {s0 : Int32} (h : post s0 M) : w_X12_thing_74 E D post px s0 M := by
  show Z E jX12_thing (D + 1) 0 (zQi post px) 74 0 [zU, zU, zU] [.int s0] M
  exact z_iret dX12_thing_74 rfl rfl (by decide) h
def w_X12_asks_31 (E : zEv) (D : Nat) (post : Int32 → zM → Prop) (px : String → zM → Prop)  (s0 : Int32) (M : zM) : Prop := Z E jX12_asks (D + 1) 0 (zQi post px) 31 0 [zU, zU] [.int s0] M
theorem e_X12_asks {E : zEv} {D : Nat} {post : Int32 → zM → Prop} {px : String → zM → Prop} {M : zM} {x1 : Int32}  (h : ∀ M1 : zM, M1 = zup M 0 0 (0 : Int32) → zCi E jX12_noQuestion D 0 [.ref 0, .int x1] M1 (fun r5 M3 => zCi E jX12_throwsIf D 0 [.ref 0, .int r5, .int (1 : Int32)] M3 (fun r8 M6 => ((r8 = 0 → vp_in ((12 : Int32) + x1) 2070 ∧ w_X12_asks_31 E D post px (M6.1 1 (((12 : Int32) + x1)).toNatClampNeg) M6) ∧ (¬ r8 = 0 → w_X12_asks_31 E D post px (0 : Int32) M6))) px) px) : zCi E jX12_asks (D + 1) 0 [.ref 0, .int x1] M post px := by
  refine z_meth (by decide) (Nat.le_of_ble_eq_true rfl) ?_
  show Z E jX12_asks (D + 1) 0 (zQi post px) 0 0 [.ref 0, .int x1] [] M
  refine z_aload_n dX12_asks_0 rfl ?_
  refine z_iconst (v := (0 : Int32)) dX12_asks_1 rfl ?_
  refine z_putI dX12_asks_2 zp_X12_3 zs_0 rfl rfl rfl ?_
  generalize hhM1 : zup M 0 0 (0 : Int32) = M1
  have h2 := h M1 hhM1.symm
  refine z_aload_n dX12_asks_5 rfl ?_
  refine z_aload_n dX12_asks_6 rfl ?_
  refine z_iload_n dX12_asks_7 rfl ?_
  refine z_callVi (As := [.int x1]) (st := [.ref 0]) dX12_asks_8 zi_X12_391 rfl rfl zs_0 rfl rfl (Nat.le_of_ble_eq_true rfl) (by decide) (fun _ _ hx => hx) h2 ?_
  intro r5 M3 h4
  refine z_iconst (v := (1 : Int32)) dX12_asks_11 rfl ?_
  refine z_callVi (As := [.int r5, .int (1 : Int32)]) (st := []) dX12_asks_12 zi_X12_282 rfl rfl zs_0 rfl rfl (Nat.le_of_ble_eq_true rfl) (by decide) (fun _ _ hx => hx) h4 ?_
  intro r8 M6 h7
  refine z_if_eq (tgt := 22) dX12_asks_15 (by decide) (fun g9 => ?_) (fun g9 => ?_)
  · have h10 := h7.1 g9
    refine z_aload_n dX12_asks_22 rfl ?_
    refine z_getR dX12_asks_23 zg_X12_13 zs_0 rfl ?_
    refine z_bipush (v := (12 : Int32)) dX12_asks_26 rfl ?_
    refine z_iload_n dX12_asks_28 rfl ?_
    refine z_iadd dX12_asks_29 ?_
    obtain ⟨g13, h12⟩ := h10
    refine z_iald dX12_asks_30 zs_1 g13 ?_
    refine z_weak [false, false] (ls' := [zU, zU]) rfl rfl ?_
    exact h12
  · have h11 := h7.2 g9
    refine z_iconst (v := (0 : Int32)) dX12_asks_18 rfl ?_
    refine z_goto (tgt := 31) dX12_asks_19 (by decide) ?_
    refine z_weak [false, false] (ls' := [zU, zU]) rfl rfl ?_
    exact h11
theorem t_X12_asks_31 {E : zEv} {D : Nat} {post : Int32 → zM → Prop} {px : String → zM → Prop} {M : zM}   {s0 : Int32} (h : post s0 M) : w_X12_asks_31 E D post px s0 M := by
  show Z E jX12_asks (D + 1) 0 (zQi post px) 31 0 [zU, zU] [.int s0] M
  exact z_iret dX12_asks_31 rfl rfl (by decide) h
def w_X12_sharp_31 (E : zEv) (D : Nat) (post : Int32 → zM → Prop) (px : String → zM → Prop)  (s0 : Int32) (M : zM) : Prop := Z E jX12_sharp (D + 1) 0 (zQi post px) 31 0 [zU, zU] [.int s0] M
theorem e_X12_sharp {E : zEv} {D : Nat} {post : Int32 → zM → Prop} {px : String → zM → Prop} {M : zM} {x1 : Int32}  (h : ∀ M1 : zM, M1 = zup M 0 0 (0 : Int32) → zCi E jX12_noWoman D 0 [.ref 0, .int x1] M1 (fun r5 M3 => zCi E jX12_throwsIf D 0 [.ref 0, .int r5, .int (1 : Int32)] M3 (fun r8 M6 => ((r8 = 0 → vp_in ((20 : Int32) + x1) 2070 ∧ w_X12_sharp_31 E D post px (M6.1 1 (((20 : Int32) + x1)).toNatClampNeg) M6) ∧ (¬ r8 = 0 → w_X12_sharp_31 E D post px (0 : Int32) M6))) px) px) : zCi E jX12_sharp (D + 1) 0 [.ref 0, .int x1] M post px := by
  refine z_meth (by decide) (Nat.le_of_ble_eq_true rfl) ?_
  show Z E jX12_sharp (D + 1) 0 (zQi post px) 0 0 [.ref 0, .int x1] [] M
  refine z_aload_n dX12_sharp_0 rfl ?_
  refine z_iconst (v := (0 : Int32)) dX12_sharp_1 rfl ?_
  refine z_putI dX12_sharp_2 zp_X12_3 zs_0 rfl rfl rfl ?_
  generalize hhM1 : zup M 0 0 (0 : Int32) = M1
  have h2 := h M1 hhM1.symm
  refine z_aload_n dX12_sharp_5 rfl ?_
  refine z_aload_n dX12_sharp_6 rfl ?_
  refine z_iload_n dX12_sharp_7 rfl ?_
  refine z_callVi (As := [.int x1]) (st := [.ref 0]) dX12_sharp_8 zi_X12_394 rfl rfl zs_0 rfl rfl (Nat.le_of_ble_eq_true rfl) (by decide) (fun _ _ hx => hx) h2 ?_
  intro r5 M3 h4
  refine z_iconst (v := (1 : Int32)) dX12_sharp_11 rfl ?_
  refine z_callVi (As := [.int r5, .int (1 : Int32)]) (st := []) dX12_sharp_12 zi_X12_282 rfl rfl zs_0 rfl rfl (Nat.le_of_ble_eq_true rfl) (by decide) (fun _ _ hx => hx) h4 ?_
  intro r8 M6 h7
  refine z_if_eq (tgt := 22) dX12_sharp_15 (by decide) (fun g9 => ?_) (fun g9 => ?_)
  · have h10 := h7.1 g9
    refine z_aload_n dX12_sharp_22 rfl ?_
    refine z_getR dX12_sharp_23 zg_X12_13 zs_0 rfl ?_
    refine z_bipush (v := (20 : Int32)) dX12_sharp_26 rfl ?_
    refine z_iload_n dX12_sharp_28 rfl ?_
    refine z_iadd dX12_sharp_29 ?_
    obtain ⟨g13, h12⟩ := h10
    refine z_iald dX12_sharp_30 zs_1 g13 ?_
    refine z_weak [false, false] (ls' := [zU, zU]) rfl rfl ?_
    exact h12
  · have h11 := h7.2 g9
    refine z_iconst (v := (0 : Int32)) dX12_sharp_18 rfl ?_
    refine z_goto (tgt := 31) dX12_sharp_19 (by decide) ?_
    refine z_weak [false, false] (ls' := [zU, zU]) rfl rfl ?_
    exact h11
theorem t_X12_sharp_31 {E : zEv} {D : Nat} {post : Int32 → zM → Prop} {px : String → zM → Prop} {M : zM}   {s0 : Int32} (h : post s0 M) : w_X12_sharp_31 E D post px s0 M := by
  show Z E jX12_sharp (D + 1) 0 (zQi post px) 31 0 [zU, zU] [.int s0] M
  exact z_iret dX12_sharp_31 rfl rfl (by decide) h
def w_X12_stands_31 (E : zEv) (D : Nat) (post : Int32 → zM → Prop) (px : String → zM → Prop)  (s0 : Int32) (M : zM) : Prop := Z E jX12_stands (D + 1) 0 (zQi post px) 31 0 [zU, zU] [.int s0] M
theorem e_X12_stands {E : zEv} {D : Nat} {post : Int32 → zM → Prop} {px : String → zM → Prop} {M : zM} {x1 : Int32}  (h : ∀ M1 : zM, M1 = zup M 0 0 (0 : Int32) → zCi E jX12_noWitness D 0 [.ref 0, .int x1] M1 (fun r5 M3 => zCi E jX12_throwsIf D 0 [.ref 0, .int r5, .int (1 : Int32)] M3 (fun r8 M6 => ((r8 = 0 → vp_in ((24 : Int32) + x1) 2070 ∧ w_X12_stands_31 E D post px (M6.1 1 (((24 : Int32) + x1)).toNatClampNeg) M6) ∧ (¬ r8 = 0 → w_X12_stands_31 E D post px (0 : Int32) M6))) px) px) : zCi E jX12_stands (D + 1) 0 [.ref 0, .int x1] M post px := by
  refine z_meth (by decide) (Nat.le_of_ble_eq_true rfl) ?_
  show Z E jX12_stands (D + 1) 0 (zQi post px) 0 0 [.ref 0, .int x1] [] M
  refine z_aload_n dX12_stands_0 rfl ?_
  refine z_iconst (v := (0 : Int32)) dX12_stands_1 rfl ?_
  refine z_putI dX12_stands_2 zp_X12_3 zs_0 rfl rfl rfl ?_
  generalize hhM1 : zup M 0 0 (0 : Int32) = M1
  have h2 := h M1 hhM1.symm
  refine z_aload_n dX12_stands_5 rfl ?_
  refine z_aload_n dX12_stands_6 rfl ?_
  refine z_iload_n dX12_stands_7 rfl ?_
  refine z_callVi (As := [.int x1]) (st := [.ref 0]) dX12_stands_8 zi_X12_370 rfl rfl zs_0 rfl rfl (Nat.le_of_ble_eq_true rfl) (by decide) (fun _ _ hx => hx) h2 ?_
  intro r5 M3 h4
  refine z_iconst (v := (1 : Int32)) dX12_stands_11 rfl ?_
  refine z_callVi (As := [.int r5, .int (1 : Int32)]) (st := []) dX12_stands_12 zi_X12_282 rfl rfl zs_0 rfl rfl (Nat.le_of_ble_eq_true rfl) (by decide) (fun _ _ hx => hx) h4 ?_
  intro r8 M6 h7
  refine z_if_eq (tgt := 22) dX12_stands_15 (by decide) (fun g9 => ?_) (fun g9 => ?_)
  · have h10 := h7.1 g9
    refine z_aload_n dX12_stands_22 rfl ?_
    refine z_getR dX12_stands_23 zg_X12_13 zs_0 rfl ?_
    refine z_bipush (v := (24 : Int32)) dX12_stands_26 rfl ?_
    refine z_iload_n dX12_stands_28 rfl ?_
    refine z_iadd dX12_stands_29 ?_
    obtain ⟨g13, h12⟩ := h10
    refine z_iald dX12_stands_30 zs_1 g13 ?_
    refine z_weak [false, false] (ls' := [zU, zU]) rfl rfl ?_
    exact h12
  · have h11 := h7.2 g9
    refine z_iconst (v := (0 : Int32)) dX12_stands_18 rfl ?_
    refine z_goto (tgt := 31) dX12_stands_19 (by decide) ?_
    refine z_weak [false, false] (ls' := [zU, zU]) rfl rfl ?_
    exact h11
theorem t_X12_stands_31 {E : zEv} {D : Nat} {post : Int32 → zM → Prop} {px : String → zM → Prop} {M : zM}   {s0 : Int32} (h : post s0 M) : w_X12_stands_31 E D post px s0 M := by
  show Z E jX12_stands (D + 1) 0 (zQi post px) 31 0 [zU, zU] [.int s0] M
  exact z_iret dX12_stands_31 rfl rfl (by decide) h
theorem e_X12_say {E : zEv} {D : Nat} {post : Int32 → zM → Prop} {px : String → zM → Prop} {M : zM} {x1 : Int32}  (h : ∀ M1 : zM, M1 = zup M 0 0 (0 : Int32) → zCi E jX12_noQuestion D 0 [.ref 0, .int x1] M1 (fun r5 M3 => zCi E jX12_throwsIf D 0 [.ref 0, .int r5, .int (1 : Int32)] M3 (fun r8 M6 => ((r8 = 0 → zCv E jX12_remembers D 0 [.ref 0] M6 (fun M12 => zCi E jX12_isSaid D 0 [.ref 0, .int x1, .int (0 : Int32)] M12 (fun r16 M14 => post r16 M14) px) px) ∧ (¬ r8 = 0 → post (0 : Int32) M6))) px) px) : zCi E jX12_say (D + 1) 0 [.ref 0, .int x1] M post px := by
  refine z_meth (by decide) (Nat.le_of_ble_eq_true rfl) ?_
  show Z E jX12_say (D + 1) 0 (zQi post px) 0 0 [.ref 0, .int x1] [] M
  refine z_aload_n dX12_say_0 rfl ?_
  refine z_iconst (v := (0 : Int32)) dX12_say_1 rfl ?_
  refine z_putI dX12_say_2 zp_X12_3 zs_0 rfl rfl rfl ?_
  generalize hhM1 : zup M 0 0 (0 : Int32) = M1
  have h2 := h M1 hhM1.symm
  refine z_aload_n dX12_say_5 rfl ?_
  refine z_aload_n dX12_say_6 rfl ?_
  refine z_iload_n dX12_say_7 rfl ?_
  refine z_callVi (As := [.int x1]) (st := [.ref 0]) dX12_say_8 zi_X12_391 rfl rfl zs_0 rfl rfl (Nat.le_of_ble_eq_true rfl) (by decide) (fun _ _ hx => hx) h2 ?_
  intro r5 M3 h4
  refine z_iconst (v := (1 : Int32)) dX12_say_11 rfl ?_
  refine z_callVi (As := [.int r5, .int (1 : Int32)]) (st := []) dX12_say_12 zi_X12_282 rfl rfl zs_0 rfl rfl (Nat.le_of_ble_eq_true rfl) (by decide) (fun _ _ hx => hx) h4 ?_
  intro r8 M6 h7
  refine z_if_eq (tgt := 20) dX12_say_15 (by decide) (fun g9 => ?_) (fun g9 => ?_)
  · have h10 := h7.1 g9
    refine z_aload_n dX12_say_20 rfl ?_
    refine z_callVv (As := []) (st := []) dX12_say_21 zi_X12_351 rfl rfl zs_0 rfl rfl (Nat.le_of_ble_eq_true rfl) (by decide) (fun _ _ hx => hx) h10 ?_
    intro M12 h13
    refine z_aload_n dX12_say_24 rfl ?_
    refine z_iload_n dX12_say_25 rfl ?_
    refine z_iconst (v := (0 : Int32)) dX12_say_26 rfl ?_
    refine z_callVi (As := [.int x1, .int (0 : Int32)]) (st := []) dX12_say_27 zi_X12_342 rfl rfl zs_0 rfl rfl (Nat.le_of_ble_eq_true rfl) (by decide) (fun _ _ hx => hx) h13 ?_
    intro r16 M14 h15
    exact z_iret dX12_say_30 rfl rfl (by decide) h15
  · have h11 := h7.2 g9
    refine z_iconst (v := (0 : Int32)) dX12_say_18 rfl ?_
    exact z_iret dX12_say_19 rfl rfl (by decide) h11
def w_X12_noTwo_22 (E : zEv) (D : Nat) (post : Int32 → zM → Prop) (px : String → zM → Prop)  (y1 : Int32) (y2 : Int32) (M : zM) : Prop := Z E jX12_noTwo (D + 1) 0 (zQi post px) 22 0 [.ref 0, .int y1, .int y2] [.ref 0] M
def w_X12_noTwo_27 (E : zEv) (D : Nat) (post : Int32 → zM → Prop) (px : String → zM → Prop)  (y1 : Int32) (y2 : Int32) (s0 : Int32) (M : zM) : Prop := Z E jX12_noTwo (D + 1) 0 (zQi post px) 27 0 [.ref 0, .int y1, .int y2] [.int s0, .ref 0] M
def w_X12_noTwo_52 (E : zEv) (D : Nat) (post : Int32 → zM → Prop) (px : String → zM → Prop)   (M : zM) : Prop := Z E jX12_noTwo (D + 1) 0 (zQi post px) 52 0 [zU, zU, zU] [] M
def w_X12_noTwo_45 (E : zEv) (D : Nat) (post : Int32 → zM → Prop) (px : String → zM → Prop)  (s0 : Int32) (M : zM) : Prop := Z E jX12_noTwo (D + 1) 0 (zQi post px) 45 0 [zU, zU, zU] [.int s0, .ref 0] M
def w_X12_noTwo_57 (E : zEv) (D : Nat) (post : Int32 → zM → Prop) (px : String → zM → Prop)  (s0 : Int32) (M : zM) : Prop := Z E jX12_noTwo (D + 1) 0 (zQi post px) 57 0 [zU, zU, zU] [.int s0] M
theorem e_X12_noTwo {E : zEv} {D : Nat} {post : Int32 → zM → Prop} {px : String → zM → Prop} {M : zM} {x1 : Int32} {x2 : Int32}  (h : ∀ M1 : zM, M1 = zup M 0 0 (0 : Int32) → zCi E jX12_noWitness D 0 [.ref 0, .int x1] M1 (fun r5 M3 => ((¬ r5 = 0 → w_X12_noTwo_22 E D post px x1 x2 M3) ∧ (r5 = 0 → zCi E jX12_noWitness D 0 [.ref 0, .int x2] M3 (fun r11 M9 => ((r11 = 0 → w_X12_noTwo_27 E D post px x1 x2 (0 : Int32) M9) ∧ (¬ r11 = 0 → w_X12_noTwo_22 E D post px x1 x2 M9))) px))) px) : zCi E jX12_noTwo (D + 1) 0 [.ref 0, .int x1, .int x2] M post px := by
  refine z_meth (by decide) (Nat.le_of_ble_eq_true rfl) ?_
  show Z E jX12_noTwo (D + 1) 0 (zQi post px) 0 0 [.ref 0, .int x1, .int x2] [] M
  refine z_aload_n dX12_noTwo_0 rfl ?_
  refine z_iconst (v := (0 : Int32)) dX12_noTwo_1 rfl ?_
  refine z_putI dX12_noTwo_2 zp_X12_3 zs_0 rfl rfl rfl ?_
  generalize hhM1 : zup M 0 0 (0 : Int32) = M1
  have h2 := h M1 hhM1.symm
  refine z_aload_n dX12_noTwo_5 rfl ?_
  refine z_aload_n dX12_noTwo_6 rfl ?_
  refine z_iload_n dX12_noTwo_7 rfl ?_
  refine z_callVi (As := [.int x1]) (st := [.ref 0]) dX12_noTwo_8 zi_X12_370 rfl rfl zs_0 rfl rfl (Nat.le_of_ble_eq_true rfl) (by decide) (fun _ _ hx => hx) h2 ?_
  intro r5 M3 h4
  refine z_if_ne (tgt := 22) dX12_noTwo_11 (by decide) (fun g6 => ?_) (fun g6 => ?_)
  · have h7 := h4.1 g6
    exact h7
  · have h8 := h4.2 g6
    refine z_aload_n dX12_noTwo_14 rfl ?_
    refine z_iload_n dX12_noTwo_15 rfl ?_
    refine z_callVi (As := [.int x2]) (st := [.ref 0]) dX12_noTwo_16 zi_X12_370 rfl rfl zs_0 rfl rfl (Nat.le_of_ble_eq_true rfl) (by decide) (fun _ _ hx => hx) h8 ?_
    intro r11 M9 h10
    refine z_if_eq (tgt := 26) dX12_noTwo_19 (by decide) (fun g12 => ?_) (fun g12 => ?_)
    · have h13 := h10.1 g12
      refine z_iconst (v := (0 : Int32)) dX12_noTwo_26 rfl ?_
      exact h13
    · have h14 := h10.2 g12
      exact h14
theorem t_X12_noTwo_22 {E : zEv} {D : Nat} {post : Int32 → zM → Prop} {px : String → zM → Prop} {M : zM}   {y1 : Int32} {y2 : Int32} (h : w_X12_noTwo_27 E D post px y1 y2 (1 : Int32) M) : w_X12_noTwo_22 E D post px y1 y2 M := by
  show Z E jX12_noTwo (D + 1) 0 (zQi post px) 22 0 [.ref 0, .int y1, .int y2] [.ref 0] M
  refine z_iconst (v := (1 : Int32)) dX12_noTwo_22 rfl ?_
  refine z_goto (tgt := 27) dX12_noTwo_23 (by decide) ?_
  exact h
theorem t_X12_noTwo_27 {E : zEv} {D : Nat} {post : Int32 → zM → Prop} {px : String → zM → Prop} {M : zM}   {y1 : Int32} {y2 : Int32} {s0 : Int32} (h : zCi E jX12_throwsIf D 0 [.ref 0, .int s0, .int (1 : Int32)] M (fun r3 M1 => ((¬ r3 = 0 → w_X12_noTwo_52 E D post px  M1) ∧ (r3 = 0 → ((¬ y1 = y2 → w_X12_noTwo_45 E D post px (0 : Int32) M1) ∧ (y1 = y2 → w_X12_noTwo_45 E D post px (1 : Int32) M1))))) px) : w_X12_noTwo_27 E D post px y1 y2 s0 M := by
  show Z E jX12_noTwo (D + 1) 0 (zQi post px) 27 0 [.ref 0, .int y1, .int y2] [.int s0, .ref 0] M
  refine z_iconst (v := (1 : Int32)) dX12_noTwo_27 rfl ?_
  refine z_callVi (As := [.int s0, .int (1 : Int32)]) (st := []) dX12_noTwo_28 zi_X12_282 rfl rfl zs_0 rfl rfl (Nat.le_of_ble_eq_true rfl) (by decide) (fun _ _ hx => hx) h ?_
  intro r3 M1 h2
  refine z_if_ne (tgt := 52) dX12_noTwo_31 (by decide) (fun g4 => ?_) (fun g4 => ?_)
  · have h5 := h2.1 g4
    refine z_weak [false, false, false] (ls' := [zU, zU, zU]) rfl rfl ?_
    exact h5
  · have h6 := h2.2 g4
    refine z_aload_n dX12_noTwo_34 rfl ?_
    refine z_iload_n dX12_noTwo_35 rfl ?_
    refine z_iload_n dX12_noTwo_36 rfl ?_
    refine z_icmp_ne (tgt := 44) dX12_noTwo_37 (by decide) (fun g7 => ?_) (fun g7 => ?_)
    · have h8 := h6.1 g7
      refine z_iconst (v := (0 : Int32)) dX12_noTwo_44 rfl ?_
      refine z_weak [false, false, false] (ls' := [zU, zU, zU]) rfl rfl ?_
      exact h8
    · have h9 := h6.2 g7
      refine z_iconst (v := (1 : Int32)) dX12_noTwo_40 rfl ?_
      refine z_goto (tgt := 45) dX12_noTwo_41 (by decide) ?_
      refine z_weak [false, false, false] (ls' := [zU, zU, zU]) rfl rfl ?_
      exact h9
theorem t_X12_noTwo_52 {E : zEv} {D : Nat} {post : Int32 → zM → Prop} {px : String → zM → Prop} {M : zM}    (h : w_X12_noTwo_57 E D post px (1 : Int32) M) : w_X12_noTwo_52 E D post px  M := by
  show Z E jX12_noTwo (D + 1) 0 (zQi post px) 52 0 [zU, zU, zU] [] M
  refine z_iconst (v := (1 : Int32)) dX12_noTwo_52 rfl ?_
  refine z_goto (tgt := 57) dX12_noTwo_53 (by decide) ?_
  exact h
theorem t_X12_noTwo_45 {E : zEv} {D : Nat} {post : Int32 → zM → Prop} {px : String → zM → Prop} {M : zM}   {s0 : Int32} (h : zCi E jX12_throwsIf D 0 [.ref 0, .int s0, .int (2 : Int32)] M (fun r3 M1 => ((r3 = 0 → w_X12_noTwo_57 E D post px (0 : Int32) M1) ∧ (¬ r3 = 0 → w_X12_noTwo_52 E D post px  M1))) px) : w_X12_noTwo_45 E D post px s0 M := by
  show Z E jX12_noTwo (D + 1) 0 (zQi post px) 45 0 [zU, zU, zU] [.int s0, .ref 0] M
  refine z_iconst (v := (2 : Int32)) dX12_noTwo_45 rfl ?_
  refine z_callVi (As := [.int s0, .int (2 : Int32)]) (st := []) dX12_noTwo_46 zi_X12_282 rfl rfl zs_0 rfl rfl (Nat.le_of_ble_eq_true rfl) (by decide) (fun _ _ hx => hx) h ?_
  intro r3 M1 h2
  refine z_if_eq (tgt := 56) dX12_noTwo_49 (by decide) (fun g4 => ?_) (fun g4 => ?_)
  · have h5 := h2.1 g4
    refine z_iconst (v := (0 : Int32)) dX12_noTwo_56 rfl ?_
    exact h5
  · have h6 := h2.2 g4
    exact h6
theorem t_X12_noTwo_57 {E : zEv} {D : Nat} {post : Int32 → zM → Prop} {px : String → zM → Prop} {M : zM}   {s0 : Int32} (h : (s0 = 0 ∨ s0 = 1) ∧ post s0 M) : w_X12_noTwo_57 E D post px s0 M := by
  show Z E jX12_noTwo (D + 1) 0 (zQi post px) 57 0 [zU, zU, zU] [.int s0] M
  obtain ⟨g2, h1⟩ := h
  exact z_iret dX12_noTwo_57 rfl (zbool g2) (by decide) h1
theorem e_X12_change {E : zEv} {D : Nat} {post : Int32 → zM → Prop} {px : String → zM → Prop} {M : zM} {x1 : Int32} {x2 : Int32}  (h : zCi E jX12_noTwo D 0 [.ref 0, .int x1, .int x2] M (fun r3 M1 => ((r3 = 0 → zCv E jX12_remembers D 0 [.ref 0] M1 (fun M7 => zCi E jX12_of D 0 [.ref 0, .int x1, .int (4 : Int32)] M7 (fun r11 M9 => zCi E jX12_at D 0 [.int x1, .int (4 : Int32)] M9 (fun r14 M12 => zCi E jX12_of D 0 [.ref 0, .int x2, .int (4 : Int32)] M12 (fun r17 M15 => vp_in r14 2070 ∧ ∀ M20 : zM, M20 = zup M15 1 (r14).toNatClampNeg r17 → zCi E jX12_at D 0 [.int x2, .int (4 : Int32)] M20 (fun r24 M22 => vp_in r24 2070 ∧ ∀ M27 : zM, M27 = zup M22 1 (r24).toNatClampNeg r11 → zCi E jX12_of D 0 [.ref 0, .int x1, .int (4 : Int32)] M27 (fun r31 M29 => vp_in ((24 : Int32) + r31) 2070 ∧ ∀ M34 : zM, M34 = zup M29 1 (((24 : Int32) + r31)).toNatClampNeg x1 → vp_in ((24 : Int32) + r11) 2070 ∧ ∀ M38 : zM, M38 = zup M34 1 (((24 : Int32) + r11)).toNatClampNeg x2 → zCi E jX12_of D 0 [.ref 0, .int x1, .int (4 : Int32)] M38 (fun r42 M40 => post r42 M40) px) px) px) px) px) px) px) ∧ (¬ r3 = 0 → post (0 : Int32) M1))) px) : zCi E jX12_change (D + 1) 0 [.ref 0, .int x1, .int x2] M post px := by
  refine z_meth (by decide) (Nat.le_of_ble_eq_true rfl) ?_
  show Z E jX12_change (D + 1) 0 (zQi post px) 0 0 [.ref 0, .int x1, .int x2, zU] [] M
  refine z_aload_n dX12_change_0 rfl ?_
  refine z_iload_n dX12_change_1 rfl ?_
  refine z_iload_n dX12_change_2 rfl ?_
  refine z_callVi (As := [.int x1, .int x2]) (st := []) dX12_change_3 zi_X12_397 rfl rfl zs_0 rfl rfl (Nat.le_of_ble_eq_true rfl) (by decide) (fun _ _ hx => hx) h ?_
  intro r3 M1 h2
  refine z_if_eq (tgt := 11) dX12_change_6 (by decide) (fun g4 => ?_) (fun g4 => ?_)
  · have h5 := h2.1 g4
    refine z_aload_n dX12_change_11 rfl ?_
    refine z_callVv (As := []) (st := []) dX12_change_12 zi_X12_351 rfl rfl zs_0 rfl rfl (Nat.le_of_ble_eq_true rfl) (by decide) (fun _ _ hx => hx) h5 ?_
    intro M7 h8
    refine z_aload_n dX12_change_15 rfl ?_
    refine z_iload_n dX12_change_16 rfl ?_
    refine z_iconst (v := (4 : Int32)) dX12_change_17 rfl ?_
    refine z_callVi (As := [.int x1, .int (4 : Int32)]) (st := []) dX12_change_18 zi_X12_285 rfl rfl zs_0 rfl rfl (Nat.le_of_ble_eq_true rfl) (by decide) (fun _ _ hx => hx) h8 ?_
    intro r11 M9 h10
    refine z_istore_n dX12_change_21 (by decide) (ls' := [.ref 0, .int x1, .int x2, .int r11]) rfl ?_
    refine z_aload_n dX12_change_22 rfl ?_
    refine z_getR dX12_change_23 zg_X12_13 zs_0 rfl ?_
    refine z_iload_n dX12_change_26 rfl ?_
    refine z_iconst (v := (4 : Int32)) dX12_change_27 rfl ?_
    refine z_callSi (As := [.int x1, .int (4 : Int32)]) (st := [.ref 1]) dX12_change_28 zi_X12_78 rfl rfl (Nat.le_of_ble_eq_true rfl) (by decide) (fun _ _ hx => hx) h10 ?_
    intro r14 M12 h13
    refine z_aload_n dX12_change_31 rfl ?_
    refine z_iload_n dX12_change_32 rfl ?_
    refine z_iconst (v := (4 : Int32)) dX12_change_33 rfl ?_
    refine z_callVi (As := [.int x2, .int (4 : Int32)]) (st := [.int r14, .ref 1]) dX12_change_34 zi_X12_285 rfl rfl zs_0 rfl rfl (Nat.le_of_ble_eq_true rfl) (by decide) (fun _ _ hx => hx) h13 ?_
    intro r17 M15 h16
    obtain ⟨g19, h18⟩ := h16
    refine z_iast dX12_change_37 zs_1 g19 ?_
    generalize hhM20 : zup M15 1 (r14).toNatClampNeg r17 = M20
    have h21 := h18 M20 hhM20.symm
    refine z_aload_n dX12_change_38 rfl ?_
    refine z_getR dX12_change_39 zg_X12_13 zs_0 rfl ?_
    refine z_iload_n dX12_change_42 rfl ?_
    refine z_iconst (v := (4 : Int32)) dX12_change_43 rfl ?_
    refine z_callSi (As := [.int x2, .int (4 : Int32)]) (st := [.ref 1]) dX12_change_44 zi_X12_78 rfl rfl (Nat.le_of_ble_eq_true rfl) (by decide) (fun _ _ hx => hx) h21 ?_
    intro r24 M22 h23
    refine z_iload_n dX12_change_47 rfl ?_
    obtain ⟨g26, h25⟩ := h23
    refine z_iast dX12_change_48 zs_1 g26 ?_
    generalize hhM27 : zup M22 1 (r24).toNatClampNeg r11 = M27
    have h28 := h25 M27 hhM27.symm
    refine z_aload_n dX12_change_49 rfl ?_
    refine z_getR dX12_change_50 zg_X12_13 zs_0 rfl ?_
    refine z_bipush (v := (24 : Int32)) dX12_change_53 rfl ?_
    refine z_aload_n dX12_change_55 rfl ?_
    refine z_iload_n dX12_change_56 rfl ?_
    refine z_iconst (v := (4 : Int32)) dX12_change_57 rfl ?_
    refine z_callVi (As := [.int x1, .int (4 : Int32)]) (st := [.int (24 : Int32), .ref 1]) dX12_change_58 zi_X12_285 rfl rfl zs_0 rfl rfl (Nat.le_of_ble_eq_true rfl) (by decide) (fun _ _ hx => hx) h28 ?_
    intro r31 M29 h30
    refine z_iadd dX12_change_61 ?_
    refine z_iload_n dX12_change_62 rfl ?_
    obtain ⟨g33, h32⟩ := h30
    refine z_iast dX12_change_63 zs_1 g33 ?_
    generalize hhM34 : zup M29 1 (((24 : Int32) + r31)).toNatClampNeg x1 = M34
    have h35 := h32 M34 hhM34.symm
    refine z_aload_n dX12_change_64 rfl ?_
    refine z_getR dX12_change_65 zg_X12_13 zs_0 rfl ?_
    refine z_bipush (v := (24 : Int32)) dX12_change_68 rfl ?_
    refine z_iload_n dX12_change_70 rfl ?_
    refine z_iadd dX12_change_71 ?_
    refine z_iload_n dX12_change_72 rfl ?_
    obtain ⟨g37, h36⟩ := h35
    refine z_iast dX12_change_73 zs_1 g37 ?_
    generalize hhM38 : zup M34 1 (((24 : Int32) + r11)).toNatClampNeg x2 = M38
    have h39 := h36 M38 hhM38.symm
    refine z_aload_n dX12_change_74 rfl ?_
    refine z_iload_n dX12_change_75 rfl ?_
    refine z_iconst (v := (4 : Int32)) dX12_change_76 rfl ?_
    refine z_callVi (As := [.int x1, .int (4 : Int32)]) (st := []) dX12_change_77 zi_X12_285 rfl rfl zs_0 rfl rfl (Nat.le_of_ble_eq_true rfl) (by decide) (fun _ _ hx => hx) h39 ?_
    intro r42 M40 h41
    exact z_iret dX12_change_80 rfl rfl (by decide) h41
  · have h6 := h2.2 g4
    refine z_iconst (v := (0 : Int32)) dX12_change_9 rfl ?_
    exact z_iret dX12_change_10 rfl rfl (by decide) h6
theorem e_X12_isNow {E : zEv} {D : Nat} {post : Int32 → zM → Prop} {px : String → zM → Prop} {M : zM} {x1 : Int32} {x2 : Int32}  (h : zCv E jX12_remembers D 0 [.ref 0] M (fun M1 => vp_in x1 2070 ∧ vp_in x1 2070 ∧ ∀ M7 : zM, M7 = zup M1 1 (x1).toNatClampNeg x2 → post (M1.1 1 (x1).toNatClampNeg) M7) px) : zCi E jX12_isNow (D + 1) 0 [.ref 0, .int x1, .int x2] M post px := by
  refine z_meth (by decide) (Nat.le_of_ble_eq_true rfl) ?_
  show Z E jX12_isNow (D + 1) 0 (zQi post px) 0 0 [.ref 0, .int x1, .int x2, zU] [] M
  refine z_aload_n dX12_isNow_0 rfl ?_
  refine z_callVv (As := []) (st := []) dX12_isNow_1 zi_X12_351 rfl rfl zs_0 rfl rfl (Nat.le_of_ble_eq_true rfl) (by decide) (fun _ _ hx => hx) h ?_
  intro M1 h2
  refine z_aload_n dX12_isNow_4 rfl ?_
  refine z_getR dX12_isNow_5 zg_X12_13 zs_0 rfl ?_
  refine z_iload_n dX12_isNow_8 rfl ?_
  obtain ⟨g4, h3⟩ := h2
  refine z_iald dX12_isNow_9 zs_1 g4 ?_
  refine z_istore_n dX12_isNow_10 (by decide) (ls' := [.ref 0, .int x1, .int x2, .int (M1.1 1 (x1).toNatClampNeg)]) rfl ?_
  refine z_aload_n dX12_isNow_11 rfl ?_
  refine z_getR dX12_isNow_12 zg_X12_13 zs_0 rfl ?_
  refine z_iload_n dX12_isNow_15 rfl ?_
  refine z_iload_n dX12_isNow_16 rfl ?_
  obtain ⟨g6, h5⟩ := h3
  refine z_iast dX12_isNow_17 zs_1 g6 ?_
  generalize hhM7 : zup M1 1 (x1).toNatClampNeg x2 = M7
  have h8 := h5 M7 hhM7.symm
  refine z_iload_n dX12_isNow_18 rfl ?_
  exact z_iret dX12_isNow_19 rfl rfl (by decide) h8
def w_X12_drink_41 (E : zEv) (D : Nat) (post : Int32 → zM → Prop) (px : String → zM → Prop)   (M : zM) : Prop := Z E jX12_drink (D + 1) 0 (zQi post px) 41 0 [zU, zU, zU] [] M
def w_X12_drink_34 (E : zEv) (D : Nat) (post : Int32 → zM → Prop) (px : String → zM → Prop)  (y1 : Int32) (y2 : Int32) (s0 : Int32) (M : zM) : Prop := Z E jX12_drink (D + 1) 0 (zQi post px) 34 0 [.ref 0, .int y1, .int y2] [.int s0, .ref 0] M
theorem e_X12_drink {E : zEv} {D : Nat} {post : Int32 → zM → Prop} {px : String → zM → Prop} {M : zM} {x1 : Int32} {x2 : Int32}  (h : ∀ M1 : zM, M1 = zup M 0 0 (0 : Int32) → zCi E jX12_noWitness D 0 [.ref 0, .int x1] M1 (fun r5 M3 => zCi E jX12_throwsIf D 0 [.ref 0, .int r5, .int (1 : Int32)] M3 (fun r8 M6 => ((¬ r8 = 0 → w_X12_drink_41 E D post px  M6) ∧ (r8 = 0 → zCi E jX12_in D 0 [.int x2, .int (1 : Int32), .int (99 : Int32)] M6 (fun r14 M12 => ((¬ r14 = 0 → w_X12_drink_34 E D post px x1 x2 (0 : Int32) M12) ∧ (r14 = 0 → w_X12_drink_34 E D post px x1 x2 (1 : Int32) M12))) px))) px) px) : zCi E jX12_drink (D + 1) 0 [.ref 0, .int x1, .int x2] M post px := by
  refine z_meth (by decide) (Nat.le_of_ble_eq_true rfl) ?_
  show Z E jX12_drink (D + 1) 0 (zQi post px) 0 0 [.ref 0, .int x1, .int x2] [] M
  refine z_aload_n dX12_drink_0 rfl ?_
  refine z_iconst (v := (0 : Int32)) dX12_drink_1 rfl ?_
  refine z_putI dX12_drink_2 zp_X12_3 zs_0 rfl rfl rfl ?_
  generalize hhM1 : zup M 0 0 (0 : Int32) = M1
  have h2 := h M1 hhM1.symm
  refine z_aload_n dX12_drink_5 rfl ?_
  refine z_aload_n dX12_drink_6 rfl ?_
  refine z_iload_n dX12_drink_7 rfl ?_
  refine z_callVi (As := [.int x1]) (st := [.ref 0]) dX12_drink_8 zi_X12_370 rfl rfl zs_0 rfl rfl (Nat.le_of_ble_eq_true rfl) (by decide) (fun _ _ hx => hx) h2 ?_
  intro r5 M3 h4
  refine z_iconst (v := (1 : Int32)) dX12_drink_11 rfl ?_
  refine z_callVi (As := [.int r5, .int (1 : Int32)]) (st := []) dX12_drink_12 zi_X12_282 rfl rfl zs_0 rfl rfl (Nat.le_of_ble_eq_true rfl) (by decide) (fun _ _ hx => hx) h4 ?_
  intro r8 M6 h7
  refine z_if_ne (tgt := 41) dX12_drink_15 (by decide) (fun g9 => ?_) (fun g9 => ?_)
  · have h10 := h7.1 g9
    refine z_weak [false, false, false] (ls' := [zU, zU, zU]) rfl rfl ?_
    exact h10
  · have h11 := h7.2 g9
    refine z_aload_n dX12_drink_18 rfl ?_
    refine z_iload_n dX12_drink_19 rfl ?_
    refine z_iconst (v := (1 : Int32)) dX12_drink_20 rfl ?_
    refine z_bipush (v := (99 : Int32)) dX12_drink_21 rfl ?_
    refine z_callSi (As := [.int x2, .int (1 : Int32), .int (99 : Int32)]) (st := [.ref 0]) dX12_drink_23 zi_X12_95 rfl rfl (Nat.le_of_ble_eq_true rfl) (by decide) (fun _ _ hx => hx) h11 ?_
    intro r14 M12 h13
    refine z_if_ne (tgt := 33) dX12_drink_26 (by decide) (fun g15 => ?_) (fun g15 => ?_)
    · have h16 := h13.1 g15
      refine z_iconst (v := (0 : Int32)) dX12_drink_33 rfl ?_
      exact h16
    · have h17 := h13.2 g15
      refine z_iconst (v := (1 : Int32)) dX12_drink_29 rfl ?_
      refine z_goto (tgt := 34) dX12_drink_30 (by decide) ?_
      exact h17
theorem t_X12_drink_41 {E : zEv} {D : Nat} {post : Int32 → zM → Prop} {px : String → zM → Prop} {M : zM}    (h : post (0 : Int32) M) : w_X12_drink_41 E D post px  M := by
  show Z E jX12_drink (D + 1) 0 (zQi post px) 41 0 [zU, zU, zU] [] M
  refine z_iconst (v := (0 : Int32)) dX12_drink_41 rfl ?_
  exact z_iret dX12_drink_42 rfl rfl (by decide) h
theorem t_X12_drink_34 {E : zEv} {D : Nat} {post : Int32 → zM → Prop} {px : String → zM → Prop} {M : zM}   {y1 : Int32} {y2 : Int32} {s0 : Int32} (h : zCi E jX12_throwsIf D 0 [.ref 0, .int s0, .int (2 : Int32)] M (fun r3 M1 => ((r3 = 0 → zCi E jX12_at D 0 [.int y1, .int (2 : Int32)] M1 (fun r9 M7 => zCi E jX12_of D 0 [.ref 0, .int y1, .int (2 : Int32)] M7 (fun r12 M10 => zCi E jX12_isNow D 0 [.ref 0, .int r9, .int (zmin (99 : Int32) (r12 + y2))] M10 (fun r15 M13 => zCi E jX12_of D 0 [.ref 0, .int y1, .int (2 : Int32)] M13 (fun r18 M16 => post r18 M16) px) px) px) px) ∧ (¬ r3 = 0 → w_X12_drink_41 E D post px  M1))) px) : w_X12_drink_34 E D post px y1 y2 s0 M := by
  show Z E jX12_drink (D + 1) 0 (zQi post px) 34 0 [.ref 0, .int y1, .int y2] [.int s0, .ref 0] M
  refine z_iconst (v := (2 : Int32)) dX12_drink_34 rfl ?_
  refine z_callVi (As := [.int s0, .int (2 : Int32)]) (st := []) dX12_drink_35 zi_X12_282 rfl rfl zs_0 rfl rfl (Nat.le_of_ble_eq_true rfl) (by decide) (fun _ _ hx => hx) h ?_
  intro r3 M1 h2
  refine z_if_eq (tgt := 43) dX12_drink_38 (by decide) (fun g4 => ?_) (fun g4 => ?_)
  · have h5 := h2.1 g4
    refine z_aload_n dX12_drink_43 rfl ?_
    refine z_iload_n dX12_drink_44 rfl ?_
    refine z_iconst (v := (2 : Int32)) dX12_drink_45 rfl ?_
    refine z_callSi (As := [.int y1, .int (2 : Int32)]) (st := [.ref 0]) dX12_drink_46 zi_X12_78 rfl rfl (Nat.le_of_ble_eq_true rfl) (by decide) (fun _ _ hx => hx) h5 ?_
    intro r9 M7 h8
    refine z_bipush (v := (99 : Int32)) dX12_drink_49 rfl ?_
    refine z_aload_n dX12_drink_51 rfl ?_
    refine z_iload_n dX12_drink_52 rfl ?_
    refine z_iconst (v := (2 : Int32)) dX12_drink_53 rfl ?_
    refine z_callVi (As := [.int y1, .int (2 : Int32)]) (st := [.int (99 : Int32), .int r9, .ref 0]) dX12_drink_54 zi_X12_285 rfl rfl zs_0 rfl rfl (Nat.le_of_ble_eq_true rfl) (by decide) (fun _ _ hx => hx) h8 ?_
    intro r12 M10 h11
    refine z_iload_n dX12_drink_57 rfl ?_
    refine z_iadd dX12_drink_58 ?_
    refine z_min dX12_drink_59 zm_X12_310 (Nat.le_of_ble_eq_true rfl) (by decide) ?_
    refine z_callVi (As := [.int r9, .int (zmin (99 : Int32) (r12 + y2))]) (st := []) dX12_drink_62 zi_X12_400 rfl rfl zs_0 rfl rfl (Nat.le_of_ble_eq_true rfl) (by decide) (fun _ _ hx => hx) h11 ?_
    intro r15 M13 h14
    refine z_pop dX12_drink_65 rfl ?_
    refine z_aload_n dX12_drink_66 rfl ?_
    refine z_iload_n dX12_drink_67 rfl ?_
    refine z_iconst (v := (2 : Int32)) dX12_drink_68 rfl ?_
    refine z_callVi (As := [.int y1, .int (2 : Int32)]) (st := []) dX12_drink_69 zi_X12_285 rfl rfl zs_0 rfl rfl (Nat.le_of_ble_eq_true rfl) (by decide) (fun _ _ hx => hx) h14 ?_
    intro r18 M16 h17
    exact z_iret dX12_drink_72 rfl rfl (by decide) h17
  · have h6 := h2.2 g4
    refine z_weak [false, false, false] (ls' := [zU, zU, zU]) rfl rfl ?_
    exact h6
def w_X12_heat_21 (E : zEv) (D : Nat) (post : Int32 → zM → Prop) (px : String → zM → Prop)  (y1 : Int32) (s0 : Int32) (M : zM) : Prop := Z E jX12_heat (D + 1) 0 (zQi post px) 21 0 [.ref 0, .int y1] [.int s0, .ref 0] M
def w_X12_heat_39 (E : zEv) (D : Nat) (post : Int32 → zM → Prop) (px : String → zM → Prop)  (s0 : Int32) (M : zM) : Prop := Z E jX12_heat (D + 1) 0 (zQi post px) 39 0 [zU, zU] [.int s0] M
theorem e_X12_heat {E : zEv} {D : Nat} {post : Int32 → zM → Prop} {px : String → zM → Prop} {M : zM} {x1 : Int32}  (h : ∀ M1 : zM, M1 = zup M 0 0 (0 : Int32) → zCi E jX12_in D 0 [.int x1, .int (0 : Int32), .int (9 : Int32)] M1 (fun r5 M3 => ((¬ r5 = 0 → w_X12_heat_21 E D post px x1 (0 : Int32) M3) ∧ (r5 = 0 → w_X12_heat_21 E D post px x1 (1 : Int32) M3))) px) : zCi E jX12_heat (D + 1) 0 [.ref 0, .int x1] M post px := by
  refine z_meth (by decide) (Nat.le_of_ble_eq_true rfl) ?_
  show Z E jX12_heat (D + 1) 0 (zQi post px) 0 0 [.ref 0, .int x1] [] M
  refine z_aload_n dX12_heat_0 rfl ?_
  refine z_iconst (v := (0 : Int32)) dX12_heat_1 rfl ?_
  refine z_putI dX12_heat_2 zp_X12_3 zs_0 rfl rfl rfl ?_
  generalize hhM1 : zup M 0 0 (0 : Int32) = M1
  have h2 := h M1 hhM1.symm
  refine z_aload_n dX12_heat_5 rfl ?_
  refine z_iload_n dX12_heat_6 rfl ?_
  refine z_iconst (v := (0 : Int32)) dX12_heat_7 rfl ?_
  refine z_bipush (v := (9 : Int32)) dX12_heat_8 rfl ?_
  refine z_callSi (As := [.int x1, .int (0 : Int32), .int (9 : Int32)]) (st := [.ref 0]) dX12_heat_10 zi_X12_95 rfl rfl (Nat.le_of_ble_eq_true rfl) (by decide) (fun _ _ hx => hx) h2 ?_
  intro r5 M3 h4
  refine z_if_ne (tgt := 20) dX12_heat_13 (by decide) (fun g6 => ?_) (fun g6 => ?_)
  · have h7 := h4.1 g6
    refine z_iconst (v := (0 : Int32)) dX12_heat_20 rfl ?_
    exact h7
  · have h8 := h4.2 g6
    refine z_iconst (v := (1 : Int32)) dX12_heat_16 rfl ?_
    refine z_goto (tgt := 21) dX12_heat_17 (by decide) ?_
    exact h8
theorem t_X12_heat_21 {E : zEv} {D : Nat} {post : Int32 → zM → Prop} {px : String → zM → Prop} {M : zM}   {y1 : Int32} {s0 : Int32} (h : zCi E jX12_throwsIf D 0 [.ref 0, .int s0, .int (1 : Int32)] M (fun r3 M1 => ((r3 = 0 → zCi E jX12_isNow D 0 [.ref 0, .int (7 : Int32), .int y1] M1 (fun r9 M7 => w_X12_heat_39 E D post px r9 M7) px) ∧ (¬ r3 = 0 → w_X12_heat_39 E D post px (0 : Int32) M1))) px) : w_X12_heat_21 E D post px y1 s0 M := by
  show Z E jX12_heat (D + 1) 0 (zQi post px) 21 0 [.ref 0, .int y1] [.int s0, .ref 0] M
  refine z_iconst (v := (1 : Int32)) dX12_heat_21 rfl ?_
  refine z_callVi (As := [.int s0, .int (1 : Int32)]) (st := []) dX12_heat_22 zi_X12_282 rfl rfl zs_0 rfl rfl (Nat.le_of_ble_eq_true rfl) (by decide) (fun _ _ hx => hx) h ?_
  intro r3 M1 h2
  refine z_if_eq (tgt := 32) dX12_heat_25 (by decide) (fun g4 => ?_) (fun g4 => ?_)
  · have h5 := h2.1 g4
    refine z_aload_n dX12_heat_32 rfl ?_
    refine z_bipush (v := (7 : Int32)) dX12_heat_33 rfl ?_
    refine z_iload_n dX12_heat_35 rfl ?_
    refine z_callVi (As := [.int (7 : Int32), .int y1]) (st := []) dX12_heat_36 zi_X12_400 rfl rfl zs_0 rfl rfl (Nat.le_of_ble_eq_true rfl) (by decide) (fun _ _ hx => hx) h5 ?_
    intro r9 M7 h8
    refine z_weak [false, false] (ls' := [zU, zU]) rfl rfl ?_
    exact h8
  · have h6 := h2.2 g4
    refine z_iconst (v := (0 : Int32)) dX12_heat_28 rfl ?_
    refine z_goto (tgt := 39) dX12_heat_29 (by decide) ?_
    refine z_weak [false, false] (ls' := [zU, zU]) rfl rfl ?_
    exact h6
theorem t_X12_heat_39 {E : zEv} {D : Nat} {post : Int32 → zM → Prop} {px : String → zM → Prop} {M : zM}   {s0 : Int32} (h : post s0 M) : w_X12_heat_39 E D post px s0 M := by
  show Z E jX12_heat (D + 1) 0 (zQi post px) 39 0 [zU, zU] [.int s0] M
  exact z_iret dX12_heat_39 rfl rfl (by decide) h
def w_X12_tell_52 (E : zEv) (D : Nat) (post : Int32 → zM → Prop) (px : String → zM → Prop)   (M : zM) : Prop := Z E jX12_tell (D + 1) 0 (zQi post px) 52 0 [zU, zU, zU] [] M
def w_X12_tell_33 (E : zEv) (D : Nat) (post : Int32 → zM → Prop) (px : String → zM → Prop)  (y2 : Int32) (s0 : Int32) (s1 : Int32) (M : zM) : Prop := Z E jX12_tell (D + 1) 0 (zQi post px) 33 0 [zU, zU, .int y2] [.int s0, .int s1, .ref 0] M
def w_X12_tell_53 (E : zEv) (D : Nat) (post : Int32 → zM → Prop) (px : String → zM → Prop)  (s0 : Int32) (M : zM) : Prop := Z E jX12_tell (D + 1) 0 (zQi post px) 53 0 [zU, zU, zU] [.int s0] M
def w_X12_tell_45 (E : zEv) (D : Nat) (post : Int32 → zM → Prop) (px : String → zM → Prop)  (s0 : Int32) (s1 : Int32) (M : zM) : Prop := Z E jX12_tell (D + 1) 0 (zQi post px) 45 0 [zU, zU, zU] [.int s0, .int s1] M
theorem e_X12_tell {E : zEv} {D : Nat} {post : Int32 → zM → Prop} {px : String → zM → Prop} {M : zM} {x1 : Int32} {x2 : Int32}  (h : ∀ M1 : zM, M1 = zup M 0 0 (0 : Int32) → zCi E jX12_noThing D 0 [.ref 0, .int x1] M1 (fun r5 M3 => zCi E jX12_throwsIf D 0 [.ref 0, .int r5, .int (1 : Int32)] M3 (fun r8 M6 => ((¬ r8 = 0 → w_X12_tell_52 E D post px  M6) ∧ (r8 = 0 → zCi E jX12_thingAt D 0 [.int x1, .int (2 : Int32)] M6 (fun r14 M12 => ((x2 = 0 → w_X12_tell_33 E D post px x2 (0 : Int32) r14 M12) ∧ (¬ x2 = 0 → w_X12_tell_33 E D post px x2 (1 : Int32) r14 M12))) px))) px) px) : zCi E jX12_tell (D + 1) 0 [.ref 0, .int x1, .int x2] M post px := by
  refine z_meth (by decide) (Nat.le_of_ble_eq_true rfl) ?_
  show Z E jX12_tell (D + 1) 0 (zQi post px) 0 0 [.ref 0, .int x1, .int x2] [] M
  refine z_aload_n dX12_tell_0 rfl ?_
  refine z_iconst (v := (0 : Int32)) dX12_tell_1 rfl ?_
  refine z_putI dX12_tell_2 zp_X12_3 zs_0 rfl rfl rfl ?_
  generalize hhM1 : zup M 0 0 (0 : Int32) = M1
  have h2 := h M1 hhM1.symm
  refine z_aload_n dX12_tell_5 rfl ?_
  refine z_aload_n dX12_tell_6 rfl ?_
  refine z_iload_n dX12_tell_7 rfl ?_
  refine z_callVi (As := [.int x1]) (st := [.ref 0]) dX12_tell_8 zi_X12_382 rfl rfl zs_0 rfl rfl (Nat.le_of_ble_eq_true rfl) (by decide) (fun _ _ hx => hx) h2 ?_
  intro r5 M3 h4
  refine z_iconst (v := (1 : Int32)) dX12_tell_11 rfl ?_
  refine z_callVi (As := [.int r5, .int (1 : Int32)]) (st := []) dX12_tell_12 zi_X12_282 rfl rfl zs_0 rfl rfl (Nat.le_of_ble_eq_true rfl) (by decide) (fun _ _ hx => hx) h4 ?_
  intro r8 M6 h7
  refine z_if_ne (tgt := 52) dX12_tell_15 (by decide) (fun g9 => ?_) (fun g9 => ?_)
  · have h10 := h7.1 g9
    refine z_weak [false, false, false] (ls' := [zU, zU, zU]) rfl rfl ?_
    exact h10
  · have h11 := h7.2 g9
    refine z_aload_n dX12_tell_18 rfl ?_
    refine z_iload_n dX12_tell_19 rfl ?_
    refine z_iconst (v := (2 : Int32)) dX12_tell_20 rfl ?_
    refine z_callSi (As := [.int x1, .int (2 : Int32)]) (st := [.ref 0]) dX12_tell_21 zi_X12_82 rfl rfl (Nat.le_of_ble_eq_true rfl) (by decide) (fun _ _ hx => hx) h11 ?_
    intro r14 M12 h13
    refine z_iload_n dX12_tell_24 rfl ?_
    refine z_if_eq (tgt := 32) dX12_tell_25 (by decide) (fun g15 => ?_) (fun g15 => ?_)
    · have h16 := h13.1 g15
      refine z_iconst (v := (0 : Int32)) dX12_tell_32 rfl ?_
      refine z_weak [false, false, true] (ls' := [zU, zU, .int x2]) rfl rfl ?_
      exact h16
    · have h17 := h13.2 g15
      refine z_iconst (v := (1 : Int32)) dX12_tell_28 rfl ?_
      refine z_goto (tgt := 33) dX12_tell_29 (by decide) ?_
      refine z_weak [false, false, true] (ls' := [zU, zU, .int x2]) rfl rfl ?_
      exact h17
theorem t_X12_tell_52 {E : zEv} {D : Nat} {post : Int32 → zM → Prop} {px : String → zM → Prop} {M : zM}    (h : w_X12_tell_53 E D post px (0 : Int32) M) : w_X12_tell_52 E D post px  M := by
  show Z E jX12_tell (D + 1) 0 (zQi post px) 52 0 [zU, zU, zU] [] M
  refine z_iconst (v := (0 : Int32)) dX12_tell_52 rfl ?_
  exact h
theorem t_X12_tell_33 {E : zEv} {D : Nat} {post : Int32 → zM → Prop} {px : String → zM → Prop} {M : zM}   {y2 : Int32} {s0 : Int32} {s1 : Int32} (h : zCi E jX12_isNow D 0 [.ref 0, .int s1, .int s0] M (fun r3 M1 => ((y2 = 0 → w_X12_tell_45 E D post px (0 : Int32) r3 M1) ∧ (¬ y2 = 0 → w_X12_tell_45 E D post px (1 : Int32) r3 M1))) px) : w_X12_tell_33 E D post px y2 s0 s1 M := by
  show Z E jX12_tell (D + 1) 0 (zQi post px) 33 0 [zU, zU, .int y2] [.int s0, .int s1, .ref 0] M
  refine z_callVi (As := [.int s1, .int s0]) (st := []) dX12_tell_33 zi_X12_400 rfl rfl zs_0 rfl rfl (Nat.le_of_ble_eq_true rfl) (by decide) (fun _ _ hx => hx) h ?_
  intro r3 M1 h2
  refine z_iload_n dX12_tell_36 rfl ?_
  refine z_if_eq (tgt := 44) dX12_tell_37 (by decide) (fun g4 => ?_) (fun g4 => ?_)
  · have h5 := h2.1 g4
    refine z_iconst (v := (0 : Int32)) dX12_tell_44 rfl ?_
    refine z_weak [false, false, false] (ls' := [zU, zU, zU]) rfl rfl ?_
    exact h5
  · have h6 := h2.2 g4
    refine z_iconst (v := (1 : Int32)) dX12_tell_40 rfl ?_
    refine z_goto (tgt := 45) dX12_tell_41 (by decide) ?_
    refine z_weak [false, false, false] (ls' := [zU, zU, zU]) rfl rfl ?_
    exact h6
theorem t_X12_tell_53 {E : zEv} {D : Nat} {post : Int32 → zM → Prop} {px : String → zM → Prop} {M : zM}   {s0 : Int32} (h : (s0 = 0 ∨ s0 = 1) ∧ post s0 M) : w_X12_tell_53 E D post px s0 M := by
  show Z E jX12_tell (D + 1) 0 (zQi post px) 53 0 [zU, zU, zU] [.int s0] M
  obtain ⟨g2, h1⟩ := h
  exact z_iret dX12_tell_53 rfl (zbool g2) (by decide) h1
theorem t_X12_tell_45 {E : zEv} {D : Nat} {post : Int32 → zM → Prop} {px : String → zM → Prop} {M : zM}   {s0 : Int32} {s1 : Int32} (h : ((s1 = s0 → w_X12_tell_52 E D post px  M) ∧ (¬ s1 = s0 → w_X12_tell_53 E D post px (1 : Int32) M))) : w_X12_tell_45 E D post px s0 s1 M := by
  show Z E jX12_tell (D + 1) 0 (zQi post px) 45 0 [zU, zU, zU] [.int s0, .int s1] M
  refine z_icmp_eq (tgt := 52) dX12_tell_45 (by decide) (fun g1 => ?_) (fun g1 => ?_)
  · have h2 := h.1 g1
    exact h2
  · have h3 := h.2 g1
    refine z_iconst (v := (1 : Int32)) dX12_tell_48 rfl ?_
    refine z_goto (tgt := 53) dX12_tell_49 (by decide) ?_
    exact h3
def w_X12_words_40 (E : zEv) (D : Nat) (post : Int32 → zM → Prop) (px : String → zM → Prop)   (M : zM) : Prop := Z E jX12_words (D + 1) 0 (zQi post px) 40 0 [zU, zU, zU] [] M
def w_X12_words_33 (E : zEv) (D : Nat) (post : Int32 → zM → Prop) (px : String → zM → Prop)  (y1 : Int32) (y2 : Int32) (s0 : Int32) (M : zM) : Prop := Z E jX12_words (D + 1) 0 (zQi post px) 33 0 [.ref 0, .int y1, .int y2] [.int s0, .ref 0] M
def w_X12_words_58 (E : zEv) (D : Nat) (post : Int32 → zM → Prop) (px : String → zM → Prop)  (s0 : Int32) (M : zM) : Prop := Z E jX12_words (D + 1) 0 (zQi post px) 58 0 [zU, zU, zU] [.int s0] M
theorem e_X12_words {E : zEv} {D : Nat} {post : Int32 → zM → Prop} {px : String → zM → Prop} {M : zM} {x1 : Int32} {x2 : Int32}  (h : ∀ M1 : zM, M1 = zup M 0 0 (0 : Int32) → zCi E jX12_noQuestion D 0 [.ref 0, .int x1] M1 (fun r5 M3 => zCi E jX12_throwsIf D 0 [.ref 0, .int r5, .int (1 : Int32)] M3 (fun r8 M6 => ((¬ r8 = 0 → w_X12_words_40 E D post px  M6) ∧ (r8 = 0 → zCi E jX12_allThings D 0 [.ref 0] M6 (fun r14 M12 => ((¬ (x2 &&& r14) = 0 → w_X12_words_33 E D post px x1 x2 (0 : Int32) M12) ∧ ((x2 &&& r14) = 0 → w_X12_words_33 E D post px x1 x2 (1 : Int32) M12))) px))) px) px) : zCi E jX12_words (D + 1) 0 [.ref 0, .int x1, .int x2] M post px := by
  refine z_meth (by decide) (Nat.le_of_ble_eq_true rfl) ?_
  show Z E jX12_words (D + 1) 0 (zQi post px) 0 0 [.ref 0, .int x1, .int x2] [] M
  refine z_aload_n dX12_words_0 rfl ?_
  refine z_iconst (v := (0 : Int32)) dX12_words_1 rfl ?_
  refine z_putI dX12_words_2 zp_X12_3 zs_0 rfl rfl rfl ?_
  generalize hhM1 : zup M 0 0 (0 : Int32) = M1
  have h2 := h M1 hhM1.symm
  refine z_aload_n dX12_words_5 rfl ?_
  refine z_aload_n dX12_words_6 rfl ?_
  refine z_iload_n dX12_words_7 rfl ?_
  refine z_callVi (As := [.int x1]) (st := [.ref 0]) dX12_words_8 zi_X12_391 rfl rfl zs_0 rfl rfl (Nat.le_of_ble_eq_true rfl) (by decide) (fun _ _ hx => hx) h2 ?_
  intro r5 M3 h4
  refine z_iconst (v := (1 : Int32)) dX12_words_11 rfl ?_
  refine z_callVi (As := [.int r5, .int (1 : Int32)]) (st := []) dX12_words_12 zi_X12_282 rfl rfl zs_0 rfl rfl (Nat.le_of_ble_eq_true rfl) (by decide) (fun _ _ hx => hx) h4 ?_
  intro r8 M6 h7
  refine z_if_ne (tgt := 40) dX12_words_15 (by decide) (fun g9 => ?_) (fun g9 => ?_)
  · have h10 := h7.1 g9
    refine z_weak [false, false, false] (ls' := [zU, zU, zU]) rfl rfl ?_
    exact h10
  · have h11 := h7.2 g9
    refine z_aload_n dX12_words_18 rfl ?_
    refine z_iload_n dX12_words_19 rfl ?_
    refine z_aload_n dX12_words_20 rfl ?_
    refine z_callVi (As := []) (st := [.int x2, .ref 0]) dX12_words_21 zi_X12_403 rfl rfl zs_0 rfl rfl (Nat.le_of_ble_eq_true rfl) (by decide) (fun _ _ hx => hx) h11 ?_
    intro r14 M12 h13
    refine z_iand dX12_words_24 ?_
    refine z_if_ne (tgt := 32) dX12_words_25 (by decide) (fun g15 => ?_) (fun g15 => ?_)
    · have h16 := h13.1 g15
      refine z_iconst (v := (0 : Int32)) dX12_words_32 rfl ?_
      exact h16
    · have h17 := h13.2 g15
      refine z_iconst (v := (1 : Int32)) dX12_words_28 rfl ?_
      refine z_goto (tgt := 33) dX12_words_29 (by decide) ?_
      exact h17
theorem t_X12_words_40 {E : zEv} {D : Nat} {post : Int32 → zM → Prop} {px : String → zM → Prop} {M : zM}    (h : w_X12_words_58 E D post px (0 : Int32) M) : w_X12_words_40 E D post px  M := by
  show Z E jX12_words (D + 1) 0 (zQi post px) 40 0 [zU, zU, zU] [] M
  refine z_iconst (v := (0 : Int32)) dX12_words_40 rfl ?_
  refine z_goto (tgt := 58) dX12_words_41 (by decide) ?_
  exact h
theorem t_X12_words_33 {E : zEv} {D : Nat} {post : Int32 → zM → Prop} {px : String → zM → Prop} {M : zM}   {y1 : Int32} {y2 : Int32} {s0 : Int32} (h : zCi E jX12_throwsIf D 0 [.ref 0, .int s0, .int (2 : Int32)] M (fun r3 M1 => ((r3 = 0 → zCi E jX12_allThings D 0 [.ref 0] M1 (fun r9 M7 => zCi E jX12_isNow D 0 [.ref 0, .int ((12 : Int32) + y1), .int (y2 &&& r9)] M7 (fun r12 M10 => w_X12_words_58 E D post px r12 M10) px) px) ∧ (¬ r3 = 0 → w_X12_words_40 E D post px  M1))) px) : w_X12_words_33 E D post px y1 y2 s0 M := by
  show Z E jX12_words (D + 1) 0 (zQi post px) 33 0 [.ref 0, .int y1, .int y2] [.int s0, .ref 0] M
  refine z_iconst (v := (2 : Int32)) dX12_words_33 rfl ?_
  refine z_callVi (As := [.int s0, .int (2 : Int32)]) (st := []) dX12_words_34 zi_X12_282 rfl rfl zs_0 rfl rfl (Nat.le_of_ble_eq_true rfl) (by decide) (fun _ _ hx => hx) h ?_
  intro r3 M1 h2
  refine z_if_eq (tgt := 44) dX12_words_37 (by decide) (fun g4 => ?_) (fun g4 => ?_)
  · have h5 := h2.1 g4
    refine z_aload_n dX12_words_44 rfl ?_
    refine z_bipush (v := (12 : Int32)) dX12_words_45 rfl ?_
    refine z_iload_n dX12_words_47 rfl ?_
    refine z_iadd dX12_words_48 ?_
    refine z_iload_n dX12_words_49 rfl ?_
    refine z_aload_n dX12_words_50 rfl ?_
    refine z_callVi (As := []) (st := [.int y2, .int ((12 : Int32) + y1), .ref 0]) dX12_words_51 zi_X12_403 rfl rfl zs_0 rfl rfl (Nat.le_of_ble_eq_true rfl) (by decide) (fun _ _ hx => hx) h5 ?_
    intro r9 M7 h8
    refine z_iand dX12_words_54 ?_
    refine z_callVi (As := [.int ((12 : Int32) + y1), .int (y2 &&& r9)]) (st := []) dX12_words_55 zi_X12_400 rfl rfl zs_0 rfl rfl (Nat.le_of_ble_eq_true rfl) (by decide) (fun _ _ hx => hx) h8 ?_
    intro r12 M10 h11
    refine z_weak [false, false, false] (ls' := [zU, zU, zU]) rfl rfl ?_
    exact h11
  · have h6 := h2.2 g4
    refine z_weak [false, false, false] (ls' := [zU, zU, zU]) rfl rfl ?_
    exact h6
theorem t_X12_words_58 {E : zEv} {D : Nat} {post : Int32 → zM → Prop} {px : String → zM → Prop} {M : zM}   {s0 : Int32} (h : post s0 M) : w_X12_words_58 E D post px s0 M := by
  show Z E jX12_words (D + 1) 0 (zQi post px) 58 0 [zU, zU, zU] [.int s0] M
  exact z_iret dX12_words_58 rfl rfl (by decide) h
def w_X12_powder_32 (E : zEv) (D : Nat) (post : Int32 → zM → Prop) (px : String → zM → Prop)  (s0 : Int32) (M : zM) : Prop := Z E jX12_powder (D + 1) 0 (zQi post px) 32 0 [zU, zU] [.int s0] M
theorem e_X12_powder {E : zEv} {D : Nat} {post : Int32 → zM → Prop} {px : String → zM → Prop} {M : zM} {x1 : Int32}  (h : ∀ M1 : zM, M1 = zup M 0 0 (0 : Int32) → zCi E jX12_noWitness D 0 [.ref 0, .int x1] M1 (fun r5 M3 => zCi E jX12_throwsIf D 0 [.ref 0, .int r5, .int (1 : Int32)] M3 (fun r8 M6 => ((r8 = 0 → zCi E jX12_at D 0 [.int x1, .int (3 : Int32)] M6 (fun r14 M12 => zCi E jX12_isNow D 0 [.ref 0, .int r14, .int (0 : Int32)] M12 (fun r17 M15 => w_X12_powder_32 E D post px r17 M15) px) px) ∧ (¬ r8 = 0 → w_X12_powder_32 E D post px (0 : Int32) M6))) px) px) : zCi E jX12_powder (D + 1) 0 [.ref 0, .int x1] M post px := by
  refine z_meth (by decide) (Nat.le_of_ble_eq_true rfl) ?_
  show Z E jX12_powder (D + 1) 0 (zQi post px) 0 0 [.ref 0, .int x1] [] M
  refine z_aload_n dX12_powder_0 rfl ?_
  refine z_iconst (v := (0 : Int32)) dX12_powder_1 rfl ?_
  refine z_putI dX12_powder_2 zp_X12_3 zs_0 rfl rfl rfl ?_
  generalize hhM1 : zup M 0 0 (0 : Int32) = M1
  have h2 := h M1 hhM1.symm
  refine z_aload_n dX12_powder_5 rfl ?_
  refine z_aload_n dX12_powder_6 rfl ?_
  refine z_iload_n dX12_powder_7 rfl ?_
  refine z_callVi (As := [.int x1]) (st := [.ref 0]) dX12_powder_8 zi_X12_370 rfl rfl zs_0 rfl rfl (Nat.le_of_ble_eq_true rfl) (by decide) (fun _ _ hx => hx) h2 ?_
  intro r5 M3 h4
  refine z_iconst (v := (1 : Int32)) dX12_powder_11 rfl ?_
  refine z_callVi (As := [.int r5, .int (1 : Int32)]) (st := []) dX12_powder_12 zi_X12_282 rfl rfl zs_0 rfl rfl (Nat.le_of_ble_eq_true rfl) (by decide) (fun _ _ hx => hx) h4 ?_
  intro r8 M6 h7
  refine z_if_eq (tgt := 22) dX12_powder_15 (by decide) (fun g9 => ?_) (fun g9 => ?_)
  · have h10 := h7.1 g9
    refine z_aload_n dX12_powder_22 rfl ?_
    refine z_iload_n dX12_powder_23 rfl ?_
    refine z_iconst (v := (3 : Int32)) dX12_powder_24 rfl ?_
    refine z_callSi (As := [.int x1, .int (3 : Int32)]) (st := [.ref 0]) dX12_powder_25 zi_X12_78 rfl rfl (Nat.le_of_ble_eq_true rfl) (by decide) (fun _ _ hx => hx) h10 ?_
    intro r14 M12 h13
    refine z_iconst (v := (0 : Int32)) dX12_powder_28 rfl ?_
    refine z_callVi (As := [.int r14, .int (0 : Int32)]) (st := []) dX12_powder_29 zi_X12_400 rfl rfl zs_0 rfl rfl (Nat.le_of_ble_eq_true rfl) (by decide) (fun _ _ hx => hx) h13 ?_
    intro r17 M15 h16
    refine z_weak [false, false] (ls' := [zU, zU]) rfl rfl ?_
    exact h16
  · have h11 := h7.2 g9
    refine z_iconst (v := (0 : Int32)) dX12_powder_18 rfl ?_
    refine z_goto (tgt := 32) dX12_powder_19 (by decide) ?_
    refine z_weak [false, false] (ls' := [zU, zU]) rfl rfl ?_
    exact h11
theorem t_X12_powder_32 {E : zEv} {D : Nat} {post : Int32 → zM → Prop} {px : String → zM → Prop} {M : zM}   {s0 : Int32} (h : post s0 M) : w_X12_powder_32 E D post px s0 M := by
  show Z E jX12_powder (D + 1) 0 (zQi post px) 32 0 [zU, zU] [.int s0] M
  exact z_iret dX12_powder_32 rfl rfl (by decide) h
def w_X12_rises_22 (E : zEv) (D : Nat) (post : Int32 → zM → Prop) (px : String → zM → Prop)  (y1 : Int32) (y2 : Int32) (M : zM) : Prop := Z E jX12_rises (D + 1) 0 (zQi post px) 22 0 [.ref 0, .int y1, .int y2] [.ref 0] M
def w_X12_rises_27 (E : zEv) (D : Nat) (post : Int32 → zM → Prop) (px : String → zM → Prop)  (y1 : Int32) (y2 : Int32) (s0 : Int32) (M : zM) : Prop := Z E jX12_rises (D + 1) 0 (zQi post px) 27 0 [.ref 0, .int y1, .int y2] [.int s0, .ref 0] M
def w_X12_rises_44 (E : zEv) (D : Nat) (post : Int32 → zM → Prop) (px : String → zM → Prop)  (s0 : Int32) (M : zM) : Prop := Z E jX12_rises (D + 1) 0 (zQi post px) 44 0 [zU, zU, zU] [.int s0] M
theorem e_X12_rises {E : zEv} {D : Nat} {post : Int32 → zM → Prop} {px : String → zM → Prop} {M : zM} {x1 : Int32} {x2 : Int32}  (h : ∀ M1 : zM, M1 = zup M 0 0 (0 : Int32) → zCi E jX12_noQuestion D 0 [.ref 0, .int x1] M1 (fun r5 M3 => ((¬ r5 = 0 → w_X12_rises_22 E D post px x1 x2 M3) ∧ (r5 = 0 → zCi E jX12_noWitness D 0 [.ref 0, .int x2] M3 (fun r11 M9 => ((r11 = 0 → w_X12_rises_27 E D post px x1 x2 (0 : Int32) M9) ∧ (¬ r11 = 0 → w_X12_rises_22 E D post px x1 x2 M9))) px))) px) : zCi E jX12_rises (D + 1) 0 [.ref 0, .int x1, .int x2] M post px := by
  refine z_meth (by decide) (Nat.le_of_ble_eq_true rfl) ?_
  show Z E jX12_rises (D + 1) 0 (zQi post px) 0 0 [.ref 0, .int x1, .int x2] [] M
  refine z_aload_n dX12_rises_0 rfl ?_
  refine z_iconst (v := (0 : Int32)) dX12_rises_1 rfl ?_
  refine z_putI dX12_rises_2 zp_X12_3 zs_0 rfl rfl rfl ?_
  generalize hhM1 : zup M 0 0 (0 : Int32) = M1
  have h2 := h M1 hhM1.symm
  refine z_aload_n dX12_rises_5 rfl ?_
  refine z_aload_n dX12_rises_6 rfl ?_
  refine z_iload_n dX12_rises_7 rfl ?_
  refine z_callVi (As := [.int x1]) (st := [.ref 0]) dX12_rises_8 zi_X12_391 rfl rfl zs_0 rfl rfl (Nat.le_of_ble_eq_true rfl) (by decide) (fun _ _ hx => hx) h2 ?_
  intro r5 M3 h4
  refine z_if_ne (tgt := 22) dX12_rises_11 (by decide) (fun g6 => ?_) (fun g6 => ?_)
  · have h7 := h4.1 g6
    exact h7
  · have h8 := h4.2 g6
    refine z_aload_n dX12_rises_14 rfl ?_
    refine z_iload_n dX12_rises_15 rfl ?_
    refine z_callVi (As := [.int x2]) (st := [.ref 0]) dX12_rises_16 zi_X12_370 rfl rfl zs_0 rfl rfl (Nat.le_of_ble_eq_true rfl) (by decide) (fun _ _ hx => hx) h8 ?_
    intro r11 M9 h10
    refine z_if_eq (tgt := 26) dX12_rises_19 (by decide) (fun g12 => ?_) (fun g12 => ?_)
    · have h13 := h10.1 g12
      refine z_iconst (v := (0 : Int32)) dX12_rises_26 rfl ?_
      exact h13
    · have h14 := h10.2 g12
      exact h14
theorem t_X12_rises_22 {E : zEv} {D : Nat} {post : Int32 → zM → Prop} {px : String → zM → Prop} {M : zM}   {y1 : Int32} {y2 : Int32} (h : w_X12_rises_27 E D post px y1 y2 (1 : Int32) M) : w_X12_rises_22 E D post px y1 y2 M := by
  show Z E jX12_rises (D + 1) 0 (zQi post px) 22 0 [.ref 0, .int y1, .int y2] [.ref 0] M
  refine z_iconst (v := (1 : Int32)) dX12_rises_22 rfl ?_
  refine z_goto (tgt := 27) dX12_rises_23 (by decide) ?_
  exact h
theorem t_X12_rises_27 {E : zEv} {D : Nat} {post : Int32 → zM → Prop} {px : String → zM → Prop} {M : zM}   {y1 : Int32} {y2 : Int32} {s0 : Int32} (h : zCi E jX12_throwsIf D 0 [.ref 0, .int s0, .int (1 : Int32)] M (fun r3 M1 => ((r3 = 0 → zCi E jX12_risesBy D 0 [.ref 0, .int y1, .int y2] M1 (fun r9 M7 => w_X12_rises_44 E D post px r9 M7) px) ∧ (¬ r3 = 0 → w_X12_rises_44 E D post px (0 : Int32) M1))) px) : w_X12_rises_27 E D post px y1 y2 s0 M := by
  show Z E jX12_rises (D + 1) 0 (zQi post px) 27 0 [.ref 0, .int y1, .int y2] [.int s0, .ref 0] M
  refine z_iconst (v := (1 : Int32)) dX12_rises_27 rfl ?_
  refine z_callVi (As := [.int s0, .int (1 : Int32)]) (st := []) dX12_rises_28 zi_X12_282 rfl rfl zs_0 rfl rfl (Nat.le_of_ble_eq_true rfl) (by decide) (fun _ _ hx => hx) h ?_
  intro r3 M1 h2
  refine z_if_eq (tgt := 38) dX12_rises_31 (by decide) (fun g4 => ?_) (fun g4 => ?_)
  · have h5 := h2.1 g4
    refine z_aload_n dX12_rises_38 rfl ?_
    refine z_iload_n dX12_rises_39 rfl ?_
    refine z_iload_n dX12_rises_40 rfl ?_
    refine z_callVi (As := [.int y1, .int y2]) (st := []) dX12_rises_41 zi_X12_364 rfl rfl zs_0 rfl rfl (Nat.le_of_ble_eq_true rfl) (by decide) (fun _ _ hx => hx) h5 ?_
    intro r9 M7 h8
    refine z_weak [false, false, false] (ls' := [zU, zU, zU]) rfl rfl ?_
    exact h8
  · have h6 := h2.2 g4
    refine z_iconst (v := (0 : Int32)) dX12_rises_34 rfl ?_
    refine z_goto (tgt := 44) dX12_rises_35 (by decide) ?_
    refine z_weak [false, false, false] (ls' := [zU, zU, zU]) rfl rfl ?_
    exact h6
theorem t_X12_rises_44 {E : zEv} {D : Nat} {post : Int32 → zM → Prop} {px : String → zM → Prop} {M : zM}   {s0 : Int32} (h : post s0 M) : w_X12_rises_44 E D post px s0 M := by
  show Z E jX12_rises (D + 1) 0 (zQi post px) 44 0 [zU, zU, zU] [.int s0] M
  exact z_iret dX12_rises_44 rfl rfl (by decide) h
def w_X12_seenBy_14 (E : zEv) (D : Nat) (post : Int32 → zM → Prop) (px : String → zM → Prop)  (y2 : Int32) (y3 : Int32) (y4 : Int32) (M : zM) : Prop := Z E jX12_seenBy (D + 1) 0 (zQi post px) 14 0 [.ref 0, zU, .int y2, .int y3, .int y4] [] M
def w_X12_seenBy_49 (E : zEv) (D : Nat) (post : Int32 → zM → Prop) (px : String → zM → Prop)  (y2 : Int32) (y4 : Int32) (s0 : Int32) (s1 : Int32) (M : zM) : Prop := Z E jX12_seenBy (D + 1) 0 (zQi post px) 49 0 [.ref 0, zU, .int y2, zU, .int y4] [.int s0, .int s1] M
theorem e_X12_seenBy {E : zEv} {D : Nat} {post : Int32 → zM → Prop} {px : String → zM → Prop} {M : zM} {x1 : Int32} {x2 : Int32}  (h : zCi E jX12_saidBy D 0 [.ref 0, .int x1] M (fun r3 M1 => zCv E jX12_lays D 0 [.ref 0, .int r3] M1 (fun M4 => w_X12_seenBy_14 E D post px x2 (0 : Int32) (0 : Int32) M4) px) px) : zCi E jX12_seenBy (D + 1) 0 [.ref 0, .int x1, .int x2] M post px := by
  refine z_meth (by decide) (Nat.le_of_ble_eq_true rfl) ?_
  show Z E jX12_seenBy (D + 1) 0 (zQi post px) 0 0 [.ref 0, .int x1, .int x2, zU, zU] [] M
  refine z_aload_n dX12_seenBy_0 rfl ?_
  refine z_aload_n dX12_seenBy_1 rfl ?_
  refine z_iload_n dX12_seenBy_2 rfl ?_
  refine z_callVi (As := [.int x1]) (st := [.ref 0]) dX12_seenBy_3 zi_X12_322 rfl rfl zs_0 rfl rfl (Nat.le_of_ble_eq_true rfl) (by decide) (fun _ _ hx => hx) h ?_
  intro r3 M1 h2
  refine z_callVv (As := [.int r3]) (st := []) dX12_seenBy_6 zi_X12_325 rfl rfl zs_0 rfl rfl (Nat.le_of_ble_eq_true rfl) (by decide) (fun _ _ hx => hx) h2 ?_
  intro M4 h5
  refine z_iconst (v := (0 : Int32)) dX12_seenBy_9 rfl ?_
  refine z_istore_n dX12_seenBy_10 (by decide) (ls' := [.ref 0, .int x1, .int x2, .int (0 : Int32), zU]) rfl ?_
  refine z_iconst (v := (0 : Int32)) dX12_seenBy_11 rfl ?_
  refine z_istore dX12_seenBy_12 (by decide) (ls' := [.ref 0, .int x1, .int x2, .int (0 : Int32), .int (0 : Int32)]) rfl ?_
  refine z_weak [true, false, true, true, true] (ls' := [.ref 0, zU, .int x2, .int (0 : Int32), .int (0 : Int32)]) rfl rfl ?_
  exact h5
theorem t_X12_seenBy_14 {E : zEv} {D : Nat} {post : Int32 → zM → Prop} {px : String → zM → Prop} {M : zM}   {y2 : Int32} {y3 : Int32} {y4 : Int32} (h : zCi E jX12_witnesses D 0 [.ref 0] M (fun r3 M1 => ((r3 ≤ y4 → post y3 M1) ∧ (¬ r3 ≤ y4 → vp_in y4 5 ∧ zCi E jX12_wouldSee D 0 [.ref 0, .int y2, .int y4, .int (M1.1 9 (y4).toNatClampNeg)] M1 (fun r11 M9 => ((r11 = 0 → w_X12_seenBy_49 E D post px y2 y4 (0 : Int32) y3 M9) ∧ (¬ r11 = 0 → w_X12_seenBy_49 E D post px y2 y4 ((1 : Int32) <<< (y4 &&& 31)) y3 M9))) px))) px) : w_X12_seenBy_14 E D post px y2 y3 y4 M := by
  show Z E jX12_seenBy (D + 1) 0 (zQi post px) 14 0 [.ref 0, zU, .int y2, .int y3, .int y4] [] M
  refine z_iload dX12_seenBy_14 rfl ?_
  refine z_aload_n dX12_seenBy_16 rfl ?_
  refine z_callVi (As := []) (st := [.int y4]) dX12_seenBy_17 zi_X12_92 rfl rfl zs_0 rfl rfl (Nat.le_of_ble_eq_true rfl) (by decide) (fun _ _ hx => hx) h ?_
  intro r3 M1 h2
  refine z_icmp_ge (tgt := 57) dX12_seenBy_20 (by decide) (fun g4 => ?_) (fun g4 => ?_)
  · have h5 := h2.1 g4
    refine z_iload_n dX12_seenBy_57 rfl ?_
    exact z_iret dX12_seenBy_58 rfl rfl (by decide) h5
  · have h6 := h2.2 g4
    refine z_iload_n dX12_seenBy_23 rfl ?_
    refine z_aload_n dX12_seenBy_24 rfl ?_
    refine z_iload_n dX12_seenBy_25 rfl ?_
    refine z_iload dX12_seenBy_26 rfl ?_
    refine z_aload_n dX12_seenBy_28 rfl ?_
    refine z_getR dX12_seenBy_29 zg_X12_42 zs_0 rfl ?_
    refine z_iload dX12_seenBy_32 rfl ?_
    obtain ⟨g8, h7⟩ := h6
    refine z_iald dX12_seenBy_34 zs_9 g8 ?_
    refine z_callVi (As := [.int y2, .int y4, .int (M1.1 9 (y4).toNatClampNeg)]) (st := [.int y3]) dX12_seenBy_35 zi_X12_361 rfl rfl zs_0 rfl rfl (Nat.le_of_ble_eq_true rfl) (by decide) (fun _ _ hx => hx) h7 ?_
    intro r11 M9 h10
    refine z_if_eq (tgt := 48) dX12_seenBy_38 (by decide) (fun g12 => ?_) (fun g12 => ?_)
    · have h13 := h10.1 g12
      refine z_iconst (v := (0 : Int32)) dX12_seenBy_48 rfl ?_
      refine z_weak [true, false, true, false, true] (ls' := [.ref 0, zU, .int y2, zU, .int y4]) rfl rfl ?_
      exact h13
    · have h14 := h10.2 g12
      refine z_iconst (v := (1 : Int32)) dX12_seenBy_41 rfl ?_
      refine z_iload dX12_seenBy_42 rfl ?_
      refine z_ishl dX12_seenBy_44 ?_
      refine z_goto (tgt := 49) dX12_seenBy_45 (by decide) ?_
      refine z_weak [true, false, true, false, true] (ls' := [.ref 0, zU, .int y2, zU, .int y4]) rfl rfl ?_
      exact h14
theorem t_X12_seenBy_49 {E : zEv} {D : Nat} {post : Int32 → zM → Prop} {px : String → zM → Prop} {M : zM}   {y2 : Int32} {y4 : Int32} {s0 : Int32} {s1 : Int32} (h : w_X12_seenBy_14 E D post px y2 (s1 ||| s0) (y4 + (1 : Int32)) M) : w_X12_seenBy_49 E D post px y2 y4 s0 s1 M := by
  show Z E jX12_seenBy (D + 1) 0 (zQi post px) 49 0 [.ref 0, zU, .int y2, zU, .int y4] [.int s0, .int s1] M
  refine z_ior dX12_seenBy_49 ?_
  refine z_istore_n dX12_seenBy_50 (by decide) (ls' := [.ref 0, zU, .int y2, .int (s1 ||| s0), .int y4]) rfl ?_
  refine z_iinc dX12_seenBy_51 rfl (by decide) (ls' := [.ref 0, zU, .int y2, .int (s1 ||| s0), .int (y4 + (1 : Int32))]) rfl ?_
  refine z_goto (tgt := 14) dX12_seenBy_54 (by decide) ?_
  exact h
def w_X12_seen_22 (E : zEv) (D : Nat) (post : Int32 → zM → Prop) (px : String → zM → Prop)  (y1 : Int32) (y2 : Int32) (M : zM) : Prop := Z E jX12_seen (D + 1) 0 (zQi post px) 22 0 [.ref 0, .int y1, .int y2] [.ref 0] M
def w_X12_seen_27 (E : zEv) (D : Nat) (post : Int32 → zM → Prop) (px : String → zM → Prop)  (y1 : Int32) (y2 : Int32) (s0 : Int32) (M : zM) : Prop := Z E jX12_seen (D + 1) 0 (zQi post px) 27 0 [.ref 0, .int y1, .int y2] [.int s0, .ref 0] M
def w_X12_seen_44 (E : zEv) (D : Nat) (post : Int32 → zM → Prop) (px : String → zM → Prop)  (s0 : Int32) (M : zM) : Prop := Z E jX12_seen (D + 1) 0 (zQi post px) 44 0 [zU, zU, zU] [.int s0] M
theorem e_X12_seen {E : zEv} {D : Nat} {post : Int32 → zM → Prop} {px : String → zM → Prop} {M : zM} {x1 : Int32} {x2 : Int32}  (h : ∀ M1 : zM, M1 = zup M 0 0 (0 : Int32) → zCi E jX12_noQuestion D 0 [.ref 0, .int x1] M1 (fun r5 M3 => ((¬ r5 = 0 → w_X12_seen_22 E D post px x1 x2 M3) ∧ (r5 = 0 → zCi E jX12_noWoman D 0 [.ref 0, .int x2] M3 (fun r11 M9 => ((r11 = 0 → w_X12_seen_27 E D post px x1 x2 (0 : Int32) M9) ∧ (¬ r11 = 0 → w_X12_seen_22 E D post px x1 x2 M9))) px))) px) : zCi E jX12_seen (D + 1) 0 [.ref 0, .int x1, .int x2] M post px := by
  refine z_meth (by decide) (Nat.le_of_ble_eq_true rfl) ?_
  show Z E jX12_seen (D + 1) 0 (zQi post px) 0 0 [.ref 0, .int x1, .int x2] [] M
  refine z_aload_n dX12_seen_0 rfl ?_
  refine z_iconst (v := (0 : Int32)) dX12_seen_1 rfl ?_
  refine z_putI dX12_seen_2 zp_X12_3 zs_0 rfl rfl rfl ?_
  generalize hhM1 : zup M 0 0 (0 : Int32) = M1
  have h2 := h M1 hhM1.symm
  refine z_aload_n dX12_seen_5 rfl ?_
  refine z_aload_n dX12_seen_6 rfl ?_
  refine z_iload_n dX12_seen_7 rfl ?_
  refine z_callVi (As := [.int x1]) (st := [.ref 0]) dX12_seen_8 zi_X12_391 rfl rfl zs_0 rfl rfl (Nat.le_of_ble_eq_true rfl) (by decide) (fun _ _ hx => hx) h2 ?_
  intro r5 M3 h4
  refine z_if_ne (tgt := 22) dX12_seen_11 (by decide) (fun g6 => ?_) (fun g6 => ?_)
  · have h7 := h4.1 g6
    exact h7
  · have h8 := h4.2 g6
    refine z_aload_n dX12_seen_14 rfl ?_
    refine z_iload_n dX12_seen_15 rfl ?_
    refine z_callVi (As := [.int x2]) (st := [.ref 0]) dX12_seen_16 zi_X12_394 rfl rfl zs_0 rfl rfl (Nat.le_of_ble_eq_true rfl) (by decide) (fun _ _ hx => hx) h8 ?_
    intro r11 M9 h10
    refine z_if_eq (tgt := 26) dX12_seen_19 (by decide) (fun g12 => ?_) (fun g12 => ?_)
    · have h13 := h10.1 g12
      refine z_iconst (v := (0 : Int32)) dX12_seen_26 rfl ?_
      exact h13
    · have h14 := h10.2 g12
      exact h14
theorem t_X12_seen_22 {E : zEv} {D : Nat} {post : Int32 → zM → Prop} {px : String → zM → Prop} {M : zM}   {y1 : Int32} {y2 : Int32} (h : w_X12_seen_27 E D post px y1 y2 (1 : Int32) M) : w_X12_seen_22 E D post px y1 y2 M := by
  show Z E jX12_seen (D + 1) 0 (zQi post px) 22 0 [.ref 0, .int y1, .int y2] [.ref 0] M
  refine z_iconst (v := (1 : Int32)) dX12_seen_22 rfl ?_
  refine z_goto (tgt := 27) dX12_seen_23 (by decide) ?_
  exact h
theorem t_X12_seen_27 {E : zEv} {D : Nat} {post : Int32 → zM → Prop} {px : String → zM → Prop} {M : zM}   {y1 : Int32} {y2 : Int32} {s0 : Int32} (h : zCi E jX12_throwsIf D 0 [.ref 0, .int s0, .int (1 : Int32)] M (fun r3 M1 => ((r3 = 0 → zCi E jX12_seenBy D 0 [.ref 0, .int y1, .int y2] M1 (fun r9 M7 => w_X12_seen_44 E D post px r9 M7) px) ∧ (¬ r3 = 0 → w_X12_seen_44 E D post px (0 : Int32) M1))) px) : w_X12_seen_27 E D post px y1 y2 s0 M := by
  show Z E jX12_seen (D + 1) 0 (zQi post px) 27 0 [.ref 0, .int y1, .int y2] [.int s0, .ref 0] M
  refine z_iconst (v := (1 : Int32)) dX12_seen_27 rfl ?_
  refine z_callVi (As := [.int s0, .int (1 : Int32)]) (st := []) dX12_seen_28 zi_X12_282 rfl rfl zs_0 rfl rfl (Nat.le_of_ble_eq_true rfl) (by decide) (fun _ _ hx => hx) h ?_
  intro r3 M1 h2
  refine z_if_eq (tgt := 38) dX12_seen_31 (by decide) (fun g4 => ?_) (fun g4 => ?_)
  · have h5 := h2.1 g4
    refine z_aload_n dX12_seen_38 rfl ?_
    refine z_iload_n dX12_seen_39 rfl ?_
    refine z_iload_n dX12_seen_40 rfl ?_
    refine z_callVi (As := [.int y1, .int y2]) (st := []) dX12_seen_41 zi_X12_406 rfl rfl zs_0 rfl rfl (Nat.le_of_ble_eq_true rfl) (by decide) (fun _ _ hx => hx) h5 ?_
    intro r9 M7 h8
    refine z_weak [false, false, false] (ls' := [zU, zU, zU]) rfl rfl ?_
    exact h8
  · have h6 := h2.2 g4
    refine z_iconst (v := (0 : Int32)) dX12_seen_34 rfl ?_
    refine z_goto (tgt := 44) dX12_seen_35 (by decide) ?_
    refine z_weak [false, false, false] (ls' := [zU, zU, zU]) rfl rfl ?_
    exact h6
theorem t_X12_seen_44 {E : zEv} {D : Nat} {post : Int32 → zM → Prop} {px : String → zM → Prop} {M : zM}   {s0 : Int32} (h : post s0 M) : w_X12_seen_44 E D post px s0 M := by
  show Z E jX12_seen (D + 1) 0 (zQi post px) 44 0 [zU, zU, zU] [.int s0] M
  exact z_iret dX12_seen_44 rfl rfl (by decide) h
def w_X12_givenAway_13 (E : zEv) (D : Nat) (post : Int32 → zM → Prop) (px : String → zM → Prop)  (y1 : Int32) (y2 : Int32) (y3 : Int32) (M : zM) : Prop := Z E jX12_givenAway (D + 1) 0 (zQi post px) 13 0 [.ref 0, .int y1, .int y2, .int y3] [] M
def w_X12_givenAway_50 (E : zEv) (D : Nat) (post : Int32 → zM → Prop) (px : String → zM → Prop)  (y1 : Int32) (y3 : Int32) (s0 : Int32) (M : zM) : Prop := Z E jX12_givenAway (D + 1) 0 (zQi post px) 50 0 [.ref 0, .int y1, zU, .int y3] [.int s0] M
def w_X12_givenAway_51 (E : zEv) (D : Nat) (post : Int32 → zM → Prop) (px : String → zM → Prop)  (y1 : Int32) (y3 : Int32) (s0 : Int32) (s1 : Int32) (M : zM) : Prop := Z E jX12_givenAway (D + 1) 0 (zQi post px) 51 0 [.ref 0, .int y1, zU, .int y3] [.int s0, .int s1] M
theorem e_X12_givenAway {E : zEv} {D : Nat} {post : Int32 → zM → Prop} {px : String → zM → Prop} {M : zM} {x1 : Int32}  (h : zCi E jX12_saidBy D 0 [.ref 0, .int x1] M (fun r3 M1 => zCv E jX12_lays D 0 [.ref 0, .int r3] M1 (fun M4 => w_X12_givenAway_13 E D post px x1 (0 : Int32) (0 : Int32) M4) px) px) : zCi E jX12_givenAway (D + 1) 0 [.ref 0, .int x1] M post px := by
  refine z_meth (by decide) (Nat.le_of_ble_eq_true rfl) ?_
  show Z E jX12_givenAway (D + 1) 0 (zQi post px) 0 0 [.ref 0, .int x1, zU, zU] [] M
  refine z_aload_n dX12_givenAway_0 rfl ?_
  refine z_aload_n dX12_givenAway_1 rfl ?_
  refine z_iload_n dX12_givenAway_2 rfl ?_
  refine z_callVi (As := [.int x1]) (st := [.ref 0]) dX12_givenAway_3 zi_X12_322 rfl rfl zs_0 rfl rfl (Nat.le_of_ble_eq_true rfl) (by decide) (fun _ _ hx => hx) h ?_
  intro r3 M1 h2
  refine z_callVv (As := [.int r3]) (st := []) dX12_givenAway_6 zi_X12_325 rfl rfl zs_0 rfl rfl (Nat.le_of_ble_eq_true rfl) (by decide) (fun _ _ hx => hx) h2 ?_
  intro M4 h5
  refine z_iconst (v := (0 : Int32)) dX12_givenAway_9 rfl ?_
  refine z_istore_n dX12_givenAway_10 (by decide) (ls' := [.ref 0, .int x1, .int (0 : Int32), zU]) rfl ?_
  refine z_iconst (v := (0 : Int32)) dX12_givenAway_11 rfl ?_
  refine z_istore_n dX12_givenAway_12 (by decide) (ls' := [.ref 0, .int x1, .int (0 : Int32), .int (0 : Int32)]) rfl ?_
  exact h5
theorem t_X12_givenAway_13 {E : zEv} {D : Nat} {post : Int32 → zM → Prop} {px : String → zM → Prop} {M : zM}   {y1 : Int32} {y2 : Int32} {y3 : Int32} (h : zCi E jX12_witnesses D 0 [.ref 0] M (fun r3 M1 => ((r3 ≤ y3 → post y2 M1) ∧ (¬ r3 ≤ y3 → vp_in y3 5 ∧ (((M1.1 9 (y3).toNatClampNeg) ≤ 0 → w_X12_givenAway_50 E D post px y1 y3 y2 M1) ∧ (¬ (M1.1 9 (y3).toNatClampNeg) ≤ 0 → zCi E jX12_saidBy D 0 [.ref 0, .int y1] M1 (fun r14 M12 => zCi E jX12_weightOn D 0 [.ref 0, .int y3, .int r14] M12 (fun r17 M15 => ((¬ r17 = 0 → w_X12_givenAway_50 E D post px y1 y3 y2 M15) ∧ (r17 = 0 → w_X12_givenAway_51 E D post px y1 y3 ((1 : Int32) <<< (y3 &&& 31)) y2 M15))) px) px))))) px) : w_X12_givenAway_13 E D post px y1 y2 y3 M := by
  show Z E jX12_givenAway (D + 1) 0 (zQi post px) 13 0 [.ref 0, .int y1, .int y2, .int y3] [] M
  refine z_iload_n dX12_givenAway_13 rfl ?_
  refine z_aload_n dX12_givenAway_14 rfl ?_
  refine z_callVi (As := []) (st := [.int y3]) dX12_givenAway_15 zi_X12_92 rfl rfl zs_0 rfl rfl (Nat.le_of_ble_eq_true rfl) (by decide) (fun _ _ hx => hx) h ?_
  intro r3 M1 h2
  refine z_icmp_ge (tgt := 59) dX12_givenAway_18 (by decide) (fun g4 => ?_) (fun g4 => ?_)
  · have h5 := h2.1 g4
    refine z_iload_n dX12_givenAway_59 rfl ?_
    exact z_iret dX12_givenAway_60 rfl rfl (by decide) h5
  · have h6 := h2.2 g4
    refine z_iload_n dX12_givenAway_21 rfl ?_
    refine z_aload_n dX12_givenAway_22 rfl ?_
    refine z_getR dX12_givenAway_23 zg_X12_42 zs_0 rfl ?_
    refine z_iload_n dX12_givenAway_26 rfl ?_
    obtain ⟨g8, h7⟩ := h6
    refine z_iald dX12_givenAway_27 zs_9 g8 ?_
    refine z_if_le (tgt := 50) dX12_givenAway_28 (by decide) (fun g9 => ?_) (fun g9 => ?_)
    · have h10 := h7.1 g9
      refine z_weak [true, true, false, true] (ls' := [.ref 0, .int y1, zU, .int y3]) rfl rfl ?_
      exact h10
    · have h11 := h7.2 g9
      refine z_aload_n dX12_givenAway_31 rfl ?_
      refine z_iload_n dX12_givenAway_32 rfl ?_
      refine z_aload_n dX12_givenAway_33 rfl ?_
      refine z_iload_n dX12_givenAway_34 rfl ?_
      refine z_callVi (As := [.int y1]) (st := [.int y3, .ref 0, .int y2]) dX12_givenAway_35 zi_X12_322 rfl rfl zs_0 rfl rfl (Nat.le_of_ble_eq_true rfl) (by decide) (fun _ _ hx => hx) h11 ?_
      intro r14 M12 h13
      refine z_callVi (As := [.int y3, .int r14]) (st := [.int y2]) dX12_givenAway_38 zi_X12_288 rfl rfl zs_0 rfl rfl (Nat.le_of_ble_eq_true rfl) (by decide) (fun _ _ hx => hx) h13 ?_
      intro r17 M15 h16
      refine z_if_ne (tgt := 50) dX12_givenAway_41 (by decide) (fun g18 => ?_) (fun g18 => ?_)
      · have h19 := h16.1 g18
        refine z_weak [true, true, false, true] (ls' := [.ref 0, .int y1, zU, .int y3]) rfl rfl ?_
        exact h19
      · have h20 := h16.2 g18
        refine z_iconst (v := (1 : Int32)) dX12_givenAway_44 rfl ?_
        refine z_iload_n dX12_givenAway_45 rfl ?_
        refine z_ishl dX12_givenAway_46 ?_
        refine z_goto (tgt := 51) dX12_givenAway_47 (by decide) ?_
        refine z_weak [true, true, false, true] (ls' := [.ref 0, .int y1, zU, .int y3]) rfl rfl ?_
        exact h20
theorem t_X12_givenAway_50 {E : zEv} {D : Nat} {post : Int32 → zM → Prop} {px : String → zM → Prop} {M : zM}   {y1 : Int32} {y3 : Int32} {s0 : Int32} (h : w_X12_givenAway_51 E D post px y1 y3 (0 : Int32) s0 M) : w_X12_givenAway_50 E D post px y1 y3 s0 M := by
  show Z E jX12_givenAway (D + 1) 0 (zQi post px) 50 0 [.ref 0, .int y1, zU, .int y3] [.int s0] M
  refine z_iconst (v := (0 : Int32)) dX12_givenAway_50 rfl ?_
  exact h
theorem t_X12_givenAway_51 {E : zEv} {D : Nat} {post : Int32 → zM → Prop} {px : String → zM → Prop} {M : zM}   {y1 : Int32} {y3 : Int32} {s0 : Int32} {s1 : Int32} (h : w_X12_givenAway_13 E D post px y1 (s1 ||| s0) (y3 + (1 : Int32)) M) : w_X12_givenAway_51 E D post px y1 y3 s0 s1 M := by
  show Z E jX12_givenAway (D + 1) 0 (zQi post px) 51 0 [.ref 0, .int y1, zU, .int y3] [.int s0, .int s1] M
  refine z_ior dX12_givenAway_51 ?_
  refine z_istore_n dX12_givenAway_52 (by decide) (ls' := [.ref 0, .int y1, .int (s1 ||| s0), .int y3]) rfl ?_
  refine z_iinc dX12_givenAway_53 rfl (by decide) (ls' := [.ref 0, .int y1, .int (s1 ||| s0), .int (y3 + (1 : Int32))]) rfl ?_
  refine z_goto (tgt := 13) dX12_givenAway_56 (by decide) ?_
  exact h
def w_X12_gives_27 (E : zEv) (D : Nat) (post : Int32 → zM → Prop) (px : String → zM → Prop)  (s0 : Int32) (M : zM) : Prop := Z E jX12_gives (D + 1) 0 (zQi post px) 27 0 [zU, zU] [.int s0] M
theorem e_X12_gives {E : zEv} {D : Nat} {post : Int32 → zM → Prop} {px : String → zM → Prop} {M : zM} {x1 : Int32}  (h : ∀ M1 : zM, M1 = zup M 0 0 (0 : Int32) → zCi E jX12_noQuestion D 0 [.ref 0, .int x1] M1 (fun r5 M3 => zCi E jX12_throwsIf D 0 [.ref 0, .int r5, .int (1 : Int32)] M3 (fun r8 M6 => ((r8 = 0 → zCi E jX12_givenAway D 0 [.ref 0, .int x1] M6 (fun r14 M12 => w_X12_gives_27 E D post px r14 M12) px) ∧ (¬ r8 = 0 → w_X12_gives_27 E D post px (0 : Int32) M6))) px) px) : zCi E jX12_gives (D + 1) 0 [.ref 0, .int x1] M post px := by
  refine z_meth (by decide) (Nat.le_of_ble_eq_true rfl) ?_
  show Z E jX12_gives (D + 1) 0 (zQi post px) 0 0 [.ref 0, .int x1] [] M
  refine z_aload_n dX12_gives_0 rfl ?_
  refine z_iconst (v := (0 : Int32)) dX12_gives_1 rfl ?_
  refine z_putI dX12_gives_2 zp_X12_3 zs_0 rfl rfl rfl ?_
  generalize hhM1 : zup M 0 0 (0 : Int32) = M1
  have h2 := h M1 hhM1.symm
  refine z_aload_n dX12_gives_5 rfl ?_
  refine z_aload_n dX12_gives_6 rfl ?_
  refine z_iload_n dX12_gives_7 rfl ?_
  refine z_callVi (As := [.int x1]) (st := [.ref 0]) dX12_gives_8 zi_X12_391 rfl rfl zs_0 rfl rfl (Nat.le_of_ble_eq_true rfl) (by decide) (fun _ _ hx => hx) h2 ?_
  intro r5 M3 h4
  refine z_iconst (v := (1 : Int32)) dX12_gives_11 rfl ?_
  refine z_callVi (As := [.int r5, .int (1 : Int32)]) (st := []) dX12_gives_12 zi_X12_282 rfl rfl zs_0 rfl rfl (Nat.le_of_ble_eq_true rfl) (by decide) (fun _ _ hx => hx) h4 ?_
  intro r8 M6 h7
  refine z_if_eq (tgt := 22) dX12_gives_15 (by decide) (fun g9 => ?_) (fun g9 => ?_)
  · have h10 := h7.1 g9
    refine z_aload_n dX12_gives_22 rfl ?_
    refine z_iload_n dX12_gives_23 rfl ?_
    refine z_callVi (As := [.int x1]) (st := []) dX12_gives_24 zi_X12_409 rfl rfl zs_0 rfl rfl (Nat.le_of_ble_eq_true rfl) (by decide) (fun _ _ hx => hx) h10 ?_
    intro r14 M12 h13
    refine z_weak [false, false] (ls' := [zU, zU]) rfl rfl ?_
    exact h13
  · have h11 := h7.2 g9
    refine z_iconst (v := (0 : Int32)) dX12_gives_18 rfl ?_
    refine z_goto (tgt := 27) dX12_gives_19 (by decide) ?_
    refine z_weak [false, false] (ls' := [zU, zU]) rfl rfl ?_
    exact h11
theorem t_X12_gives_27 {E : zEv} {D : Nat} {post : Int32 → zM → Prop} {px : String → zM → Prop} {M : zM}   {s0 : Int32} (h : post s0 M) : w_X12_gives_27 E D post px s0 M := by
  show Z E jX12_gives (D + 1) 0 (zQi post px) 27 0 [zU, zU] [.int s0] M
  exact z_iret dX12_gives_27 rfl rfl (by decide) h
def w_X12_writes_22 (E : zEv) (D : Nat) (post : Int32 → zM → Prop) (px : String → zM → Prop)  (y1 : Int32) (y2 : Int32) (M : zM) : Prop := Z E jX12_writes (D + 1) 0 (zQi post px) 22 0 [.ref 0, .int y1, .int y2] [.ref 0] M
def w_X12_writes_27 (E : zEv) (D : Nat) (post : Int32 → zM → Prop) (px : String → zM → Prop)  (y1 : Int32) (y2 : Int32) (s0 : Int32) (M : zM) : Prop := Z E jX12_writes (D + 1) 0 (zQi post px) 27 0 [.ref 0, .int y1, .int y2] [.int s0, .ref 0] M
def w_X12_writes_49 (E : zEv) (D : Nat) (post : Int32 → zM → Prop) (px : String → zM → Prop)  (s0 : Int32) (M : zM) : Prop := Z E jX12_writes (D + 1) 0 (zQi post px) 49 0 [zU, zU, zU] [.int s0] M
theorem e_X12_writes {E : zEv} {D : Nat} {post : Int32 → zM → Prop} {px : String → zM → Prop} {M : zM} {x1 : Int32} {x2 : Int32}  (h : ∀ M1 : zM, M1 = zup M 0 0 (0 : Int32) → zCi E jX12_noWoman D 0 [.ref 0, .int x1] M1 (fun r5 M3 => ((¬ r5 = 0 → w_X12_writes_22 E D post px x1 x2 M3) ∧ (r5 = 0 → zCi E jX12_noWitness D 0 [.ref 0, .int x2] M3 (fun r11 M9 => ((r11 = 0 → w_X12_writes_27 E D post px x1 x2 (0 : Int32) M9) ∧ (¬ r11 = 0 → w_X12_writes_22 E D post px x1 x2 M9))) px))) px) : zCi E jX12_writes (D + 1) 0 [.ref 0, .int x1, .int x2] M post px := by
  refine z_meth (by decide) (Nat.le_of_ble_eq_true rfl) ?_
  show Z E jX12_writes (D + 1) 0 (zQi post px) 0 0 [.ref 0, .int x1, .int x2] [] M
  refine z_aload_n dX12_writes_0 rfl ?_
  refine z_iconst (v := (0 : Int32)) dX12_writes_1 rfl ?_
  refine z_putI dX12_writes_2 zp_X12_3 zs_0 rfl rfl rfl ?_
  generalize hhM1 : zup M 0 0 (0 : Int32) = M1
  have h2 := h M1 hhM1.symm
  refine z_aload_n dX12_writes_5 rfl ?_
  refine z_aload_n dX12_writes_6 rfl ?_
  refine z_iload_n dX12_writes_7 rfl ?_
  refine z_callVi (As := [.int x1]) (st := [.ref 0]) dX12_writes_8 zi_X12_394 rfl rfl zs_0 rfl rfl (Nat.le_of_ble_eq_true rfl) (by decide) (fun _ _ hx => hx) h2 ?_
  intro r5 M3 h4
  refine z_if_ne (tgt := 22) dX12_writes_11 (by decide) (fun g6 => ?_) (fun g6 => ?_)
  · have h7 := h4.1 g6
    exact h7
  · have h8 := h4.2 g6
    refine z_aload_n dX12_writes_14 rfl ?_
    refine z_iload_n dX12_writes_15 rfl ?_
    refine z_callVi (As := [.int x2]) (st := [.ref 0]) dX12_writes_16 zi_X12_370 rfl rfl zs_0 rfl rfl (Nat.le_of_ble_eq_true rfl) (by decide) (fun _ _ hx => hx) h8 ?_
    intro r11 M9 h10
    refine z_if_eq (tgt := 26) dX12_writes_19 (by decide) (fun g12 => ?_) (fun g12 => ?_)
    · have h13 := h10.1 g12
      refine z_iconst (v := (0 : Int32)) dX12_writes_26 rfl ?_
      exact h13
    · have h14 := h10.2 g12
      exact h14
theorem t_X12_writes_22 {E : zEv} {D : Nat} {post : Int32 → zM → Prop} {px : String → zM → Prop} {M : zM}   {y1 : Int32} {y2 : Int32} (h : w_X12_writes_27 E D post px y1 y2 (1 : Int32) M) : w_X12_writes_22 E D post px y1 y2 M := by
  show Z E jX12_writes (D + 1) 0 (zQi post px) 22 0 [.ref 0, .int y1, .int y2] [.ref 0] M
  refine z_iconst (v := (1 : Int32)) dX12_writes_22 rfl ?_
  refine z_goto (tgt := 27) dX12_writes_23 (by decide) ?_
  exact h
theorem t_X12_writes_27 {E : zEv} {D : Nat} {post : Int32 → zM → Prop} {px : String → zM → Prop} {M : zM}   {y1 : Int32} {y2 : Int32} {s0 : Int32} (h : zCi E jX12_throwsIf D 0 [.ref 0, .int s0, .int (1 : Int32)] M (fun r3 M1 => ((r3 = 0 → zCi E jX12_of D 0 [.ref 0, .int y2, .int (3 : Int32)] M1 (fun r9 M7 => zCi E jX12_readBy D 0 [.ref 0, .int y1, .int r9] M7 (fun r12 M10 => w_X12_writes_49 E D post px r12 M10) px) px) ∧ (¬ r3 = 0 → w_X12_writes_49 E D post px (0 : Int32) M1))) px) : w_X12_writes_27 E D post px y1 y2 s0 M := by
  show Z E jX12_writes (D + 1) 0 (zQi post px) 27 0 [.ref 0, .int y1, .int y2] [.int s0, .ref 0] M
  refine z_iconst (v := (1 : Int32)) dX12_writes_27 rfl ?_
  refine z_callVi (As := [.int s0, .int (1 : Int32)]) (st := []) dX12_writes_28 zi_X12_282 rfl rfl zs_0 rfl rfl (Nat.le_of_ble_eq_true rfl) (by decide) (fun _ _ hx => hx) h ?_
  intro r3 M1 h2
  refine z_if_eq (tgt := 38) dX12_writes_31 (by decide) (fun g4 => ?_) (fun g4 => ?_)
  · have h5 := h2.1 g4
    refine z_aload_n dX12_writes_38 rfl ?_
    refine z_iload_n dX12_writes_39 rfl ?_
    refine z_aload_n dX12_writes_40 rfl ?_
    refine z_iload_n dX12_writes_41 rfl ?_
    refine z_iconst (v := (3 : Int32)) dX12_writes_42 rfl ?_
    refine z_callVi (As := [.int y2, .int (3 : Int32)]) (st := [.int y1, .ref 0]) dX12_writes_43 zi_X12_285 rfl rfl zs_0 rfl rfl (Nat.le_of_ble_eq_true rfl) (by decide) (fun _ _ hx => hx) h5 ?_
    intro r9 M7 h8
    refine z_callVi (As := [.int y1, .int r9]) (st := []) dX12_writes_46 zi_X12_358 rfl rfl zs_0 rfl rfl (Nat.le_of_ble_eq_true rfl) (by decide) (fun _ _ hx => hx) h8 ?_
    intro r12 M10 h11
    refine z_weak [false, false, false] (ls' := [zU, zU, zU]) rfl rfl ?_
    exact h11
  · have h6 := h2.2 g4
    refine z_iconst (v := (0 : Int32)) dX12_writes_34 rfl ?_
    refine z_goto (tgt := 49) dX12_writes_35 (by decide) ?_
    refine z_weak [false, false, false] (ls' := [zU, zU, zU]) rfl rfl ?_
    exact h6
theorem t_X12_writes_49 {E : zEv} {D : Nat} {post : Int32 → zM → Prop} {px : String → zM → Prop} {M : zM}   {s0 : Int32} (h : post s0 M) : w_X12_writes_49 E D post px s0 M := by
  show Z E jX12_writes (D + 1) 0 (zQi post px) 49 0 [zU, zU, zU] [.int s0] M
  exact z_iret dX12_writes_49 rfl rfl (by decide) h
def w_X12_pale_13 (E : zEv) (D : Nat) (post : Int32 → zM → Prop) (px : String → zM → Prop)  (y1 : Int32) (y2 : Int32) (M : zM) : Prop := Z E jX12_pale (D + 1) 0 (zQi post px) 13 0 [.ref 0, .int y1, .int y2] [] M
def w_X12_pale_49 (E : zEv) (D : Nat) (post : Int32 → zM → Prop) (px : String → zM → Prop)  (y1 : Int32) (M : zM) : Prop := Z E jX12_pale (D + 1) 0 (zQi post px) 49 0 [.ref 0, .int y1, zU] [] M
def w_X12_pale_36 (E : zEv) (D : Nat) (post : Int32 → zM → Prop) (px : String → zM → Prop)  (y2 : Int32) (s0 : Int32) (M : zM) : Prop := Z E jX12_pale (D + 1) 0 (zQi post px) 36 0 [.ref 0, zU, .int y2] [.int s0] M
theorem e_X12_pale {E : zEv} {D : Nat} {post : Int32 → zM → Prop} {px : String → zM → Prop} {M : zM}   (h : ∀ M1 : zM, M1 = zup M 0 0 (0 : Int32) → zCv E jX12_keepsAll D 0 [.ref 0] M1 (fun M3 => w_X12_pale_13 E D post px (-1 : Int32) (0 : Int32) M3) px) : zCi E jX12_pale (D + 1) 0 [.ref 0] M post px := by
  refine z_meth (by decide) (Nat.le_of_ble_eq_true rfl) ?_
  show Z E jX12_pale (D + 1) 0 (zQi post px) 0 0 [.ref 0, zU, zU] [] M
  refine z_aload_n dX12_pale_0 rfl ?_
  refine z_iconst (v := (0 : Int32)) dX12_pale_1 rfl ?_
  refine z_putI dX12_pale_2 zp_X12_3 zs_0 rfl rfl rfl ?_
  generalize hhM1 : zup M 0 0 (0 : Int32) = M1
  have h2 := h M1 hhM1.symm
  refine z_iconst (v := (-1 : Int32)) dX12_pale_5 rfl ?_
  refine z_istore_n dX12_pale_6 (by decide) (ls' := [.ref 0, .int (-1 : Int32), zU]) rfl ?_
  refine z_aload_n dX12_pale_7 rfl ?_
  refine z_callVv (As := []) (st := []) dX12_pale_8 zi_X12_412 rfl rfl zs_0 rfl rfl (Nat.le_of_ble_eq_true rfl) (by decide) (fun _ _ hx => hx) h2 ?_
  intro M3 h4
  refine z_iconst (v := (0 : Int32)) dX12_pale_11 rfl ?_
  refine z_istore_n dX12_pale_12 (by decide) (ls' := [.ref 0, .int (-1 : Int32), .int (0 : Int32)]) rfl ?_
  exact h4
theorem t_X12_pale_13 {E : zEv} {D : Nat} {post : Int32 → zM → Prop} {px : String → zM → Prop} {M : zM}   {y1 : Int32} {y2 : Int32} (h : (((60 : Int32) < y2 → w_X12_pale_49 E D post px y1 M) ∧ (¬ (60 : Int32) < y2 → ((¬ y1 = (-1 : Int32) → w_X12_pale_49 E D post px y1 M) ∧ (y1 = (-1 : Int32) → zCi E jX12_shadesOfAll D 0 [.ref 0] M (fun r9 M7 => ((¬ r9 = 0 → w_X12_pale_36 E D post px y2 (-1 : Int32) M7) ∧ (r9 = 0 → w_X12_pale_36 E D post px y2 y2 M7))) px))))) : w_X12_pale_13 E D post px y1 y2 M := by
  show Z E jX12_pale (D + 1) 0 (zQi post px) 13 0 [.ref 0, .int y1, .int y2] [] M
  refine z_iload_n dX12_pale_13 rfl ?_
  refine z_bipush (v := (60 : Int32)) dX12_pale_14 rfl ?_
  refine z_icmp_gt (tgt := 49) dX12_pale_16 (by decide) (fun g1 => ?_) (fun g1 => ?_)
  · have h2 := h.1 g1
    refine z_weak [true, true, false] (ls' := [.ref 0, .int y1, zU]) rfl rfl ?_
    exact h2
  · have h3 := h.2 g1
    refine z_iload_n dX12_pale_19 rfl ?_
    refine z_iconst (v := (-1 : Int32)) dX12_pale_20 rfl ?_
    refine z_icmp_ne (tgt := 49) dX12_pale_21 (by decide) (fun g4 => ?_) (fun g4 => ?_)
    · have h5 := h3.1 g4
      refine z_weak [true, true, false] (ls' := [.ref 0, .int y1, zU]) rfl rfl ?_
      exact h5
    · have h6 := h3.2 g4
      refine z_aload_n dX12_pale_24 rfl ?_
      refine z_callVi (As := []) (st := []) dX12_pale_25 zi_X12_373 rfl rfl zs_0 rfl rfl (Nat.le_of_ble_eq_true rfl) (by decide) (fun _ _ hx => hx) h6 ?_
      intro r9 M7 h8
      refine z_if_ne (tgt := 35) dX12_pale_28 (by decide) (fun g10 => ?_) (fun g10 => ?_)
      · have h11 := h8.1 g10
        refine z_iconst (v := (-1 : Int32)) dX12_pale_35 rfl ?_
        refine z_weak [true, false, true] (ls' := [.ref 0, zU, .int y2]) rfl rfl ?_
        exact h11
      · have h12 := h8.2 g10
        refine z_iload_n dX12_pale_31 rfl ?_
        refine z_goto (tgt := 36) dX12_pale_32 (by decide) ?_
        refine z_weak [true, false, true] (ls' := [.ref 0, zU, .int y2]) rfl rfl ?_
        exact h12
theorem t_X12_pale_49 {E : zEv} {D : Nat} {post : Int32 → zM → Prop} {px : String → zM → Prop} {M : zM}   {y1 : Int32} (h : zCv E jX12_bringsBack D 0 [.ref 0] M (fun M1 => post y1 M1) px) : w_X12_pale_49 E D post px y1 M := by
  show Z E jX12_pale (D + 1) 0 (zQi post px) 49 0 [.ref 0, .int y1, zU] [] M
  refine z_aload_n dX12_pale_49 rfl ?_
  refine z_callVv (As := []) (st := []) dX12_pale_50 zi_X12_415 rfl rfl zs_0 rfl rfl (Nat.le_of_ble_eq_true rfl) (by decide) (fun _ _ hx => hx) h ?_
  intro M1 h2
  refine z_iload_n dX12_pale_53 rfl ?_
  exact z_iret dX12_pale_54 rfl rfl (by decide) h2
theorem t_X12_pale_36 {E : zEv} {D : Nat} {post : Int32 → zM → Prop} {px : String → zM → Prop} {M : zM}   {y2 : Int32} {s0 : Int32} (h : zCi E jX12_oneMoment D 0 [.ref 0, .int (1 : Int32)] M (fun r3 M1 => w_X12_pale_13 E D post px s0 (y2 + (1 : Int32)) M1) px) : w_X12_pale_36 E D post px y2 s0 M := by
  show Z E jX12_pale (D + 1) 0 (zQi post px) 36 0 [.ref 0, zU, .int y2] [.int s0] M
  refine z_istore_n dX12_pale_36 (by decide) (ls' := [.ref 0, .int s0, .int y2]) rfl ?_
  refine z_aload_n dX12_pale_37 rfl ?_
  refine z_iconst (v := (1 : Int32)) dX12_pale_38 rfl ?_
  refine z_callVi (As := [.int (1 : Int32)]) (st := []) dX12_pale_39 zi_X12_348 rfl rfl zs_0 rfl rfl (Nat.le_of_ble_eq_true rfl) (by decide) (fun _ _ hx => hx) h ?_
  intro r3 M1 h2
  refine z_pop dX12_pale_42 rfl ?_
  refine z_iinc dX12_pale_43 rfl (by decide) (ls' := [.ref 0, .int s0, .int (y2 + (1 : Int32))]) rfl ?_
  refine z_goto (tgt := 13) dX12_pale_46 (by decide) ?_
  exact h2
def w_X12_reddest_9 (E : zEv) (D : Nat) (post : Int32 → zM → Prop) (px : String → zM → Prop)  (y1 : Int32) (y2 : Int32) (M : zM) : Prop := Z E jX12_reddest (D + 1) 0 (zQi post px) 9 0 [.ref 0, .int y1, .int y2] [] M
def w_X12_reddest_37 (E : zEv) (D : Nat) (post : Int32 → zM → Prop) (px : String → zM → Prop)  (y2 : Int32) (M : zM) : Prop := Z E jX12_reddest (D + 1) 0 (zQi post px) 37 0 [.ref 0, zU, .int y2] [] M
def w_X12_reddest_39 (E : zEv) (D : Nat) (post : Int32 → zM → Prop) (px : String → zM → Prop)  (y1 : Int32) (y2 : Int32) (M : zM) : Prop := Z E jX12_reddest (D + 1) 0 (zQi post px) 39 0 [.ref 0, .int y1, .int y2] [] M
theorem e_X12_reddest {E : zEv} {D : Nat} {post : Int32 → zM → Prop} {px : String → zM → Prop} {M : zM}   (h : ∀ M1 : zM, M1 = zup M 0 0 (0 : Int32) → w_X12_reddest_9 E D post px (-1 : Int32) (0 : Int32) M1) : zCi E jX12_reddest (D + 1) 0 [.ref 0] M post px := by
  refine z_meth (by decide) (Nat.le_of_ble_eq_true rfl) ?_
  show Z E jX12_reddest (D + 1) 0 (zQi post px) 0 0 [.ref 0, zU, zU] [] M
  refine z_aload_n dX12_reddest_0 rfl ?_
  refine z_iconst (v := (0 : Int32)) dX12_reddest_1 rfl ?_
  refine z_putI dX12_reddest_2 zp_X12_3 zs_0 rfl rfl rfl ?_
  generalize hhM1 : zup M 0 0 (0 : Int32) = M1
  have h2 := h M1 hhM1.symm
  refine z_iconst (v := (-1 : Int32)) dX12_reddest_5 rfl ?_
  refine z_istore_n dX12_reddest_6 (by decide) (ls' := [.ref 0, .int (-1 : Int32), zU]) rfl ?_
  refine z_iconst (v := (0 : Int32)) dX12_reddest_7 rfl ?_
  refine z_istore_n dX12_reddest_8 (by decide) (ls' := [.ref 0, .int (-1 : Int32), .int (0 : Int32)]) rfl ?_
  exact h2
theorem t_X12_reddest_9 {E : zEv} {D : Nat} {post : Int32 → zM → Prop} {px : String → zM → Prop} {M : zM}   {y1 : Int32} {y2 : Int32} (h : zCi E jX12_witnesses D 0 [.ref 0] M (fun r3 M1 => ((r3 ≤ y2 → post y1 M1) ∧ (¬ r3 ≤ y2 → ((y1 = (-1 : Int32) → w_X12_reddest_37 E D post px y2 M1) ∧ (¬ y1 = (-1 : Int32) → zCi E jX12_of D 0 [.ref 0, .int y2, .int (3 : Int32)] M1 (fun r12 M10 => zCi E jX12_of D 0 [.ref 0, .int y1, .int (3 : Int32)] M10 (fun r15 M13 => ((r12 ≤ r15 → w_X12_reddest_39 E D post px y1 y2 M13) ∧ (¬ r12 ≤ r15 → w_X12_reddest_37 E D post px y2 M13))) px) px))))) px) : w_X12_reddest_9 E D post px y1 y2 M := by
  show Z E jX12_reddest (D + 1) 0 (zQi post px) 9 0 [.ref 0, .int y1, .int y2] [] M
  refine z_iload_n dX12_reddest_9 rfl ?_
  refine z_aload_n dX12_reddest_10 rfl ?_
  refine z_callVi (As := []) (st := [.int y2]) dX12_reddest_11 zi_X12_92 rfl rfl zs_0 rfl rfl (Nat.le_of_ble_eq_true rfl) (by decide) (fun _ _ hx => hx) h ?_
  intro r3 M1 h2
  refine z_icmp_ge (tgt := 45) dX12_reddest_14 (by decide) (fun g4 => ?_) (fun g4 => ?_)
  · have h5 := h2.1 g4
    refine z_iload_n dX12_reddest_45 rfl ?_
    exact z_iret dX12_reddest_46 rfl rfl (by decide) h5
  · have h6 := h2.2 g4
    refine z_iload_n dX12_reddest_17 rfl ?_
    refine z_iconst (v := (-1 : Int32)) dX12_reddest_18 rfl ?_
    refine z_icmp_eq (tgt := 37) dX12_reddest_19 (by decide) (fun g7 => ?_) (fun g7 => ?_)
    · have h8 := h6.1 g7
      refine z_weak [true, false, true] (ls' := [.ref 0, zU, .int y2]) rfl rfl ?_
      exact h8
    · have h9 := h6.2 g7
      refine z_aload_n dX12_reddest_22 rfl ?_
      refine z_iload_n dX12_reddest_23 rfl ?_
      refine z_iconst (v := (3 : Int32)) dX12_reddest_24 rfl ?_
      refine z_callVi (As := [.int y2, .int (3 : Int32)]) (st := []) dX12_reddest_25 zi_X12_285 rfl rfl zs_0 rfl rfl (Nat.le_of_ble_eq_true rfl) (by decide) (fun _ _ hx => hx) h9 ?_
      intro r12 M10 h11
      refine z_aload_n dX12_reddest_28 rfl ?_
      refine z_iload_n dX12_reddest_29 rfl ?_
      refine z_iconst (v := (3 : Int32)) dX12_reddest_30 rfl ?_
      refine z_callVi (As := [.int y1, .int (3 : Int32)]) (st := [.int r12]) dX12_reddest_31 zi_X12_285 rfl rfl zs_0 rfl rfl (Nat.le_of_ble_eq_true rfl) (by decide) (fun _ _ hx => hx) h11 ?_
      intro r15 M13 h14
      refine z_icmp_le (tgt := 39) dX12_reddest_34 (by decide) (fun g16 => ?_) (fun g16 => ?_)
      · have h17 := h14.1 g16
        exact h17
      · have h18 := h14.2 g16
        refine z_weak [true, false, true] (ls' := [.ref 0, zU, .int y2]) rfl rfl ?_
        exact h18
theorem t_X12_reddest_37 {E : zEv} {D : Nat} {post : Int32 → zM → Prop} {px : String → zM → Prop} {M : zM}   {y2 : Int32} (h : w_X12_reddest_39 E D post px y2 y2 M) : w_X12_reddest_37 E D post px y2 M := by
  show Z E jX12_reddest (D + 1) 0 (zQi post px) 37 0 [.ref 0, zU, .int y2] [] M
  refine z_iload_n dX12_reddest_37 rfl ?_
  refine z_istore_n dX12_reddest_38 (by decide) (ls' := [.ref 0, .int y2, .int y2]) rfl ?_
  exact h
theorem t_X12_reddest_39 {E : zEv} {D : Nat} {post : Int32 → zM → Prop} {px : String → zM → Prop} {M : zM}   {y1 : Int32} {y2 : Int32} (h : w_X12_reddest_9 E D post px y1 (y2 + (1 : Int32)) M) : w_X12_reddest_39 E D post px y1 y2 M := by
  show Z E jX12_reddest (D + 1) 0 (zQi post px) 39 0 [.ref 0, .int y1, .int y2] [] M
  refine z_iinc dX12_reddest_39 rfl (by decide) (ls' := [.ref 0, .int y1, .int (y2 + (1 : Int32))]) rfl ?_
  refine z_goto (tgt := 9) dX12_reddest_42 (by decide) ?_
  exact h
def w_X12_palest_9 (E : zEv) (D : Nat) (post : Int32 → zM → Prop) (px : String → zM → Prop)  (y1 : Int32) (y2 : Int32) (M : zM) : Prop := Z E jX12_palest (D + 1) 0 (zQi post px) 9 0 [.ref 0, .int y1, .int y2] [] M
def w_X12_palest_37 (E : zEv) (D : Nat) (post : Int32 → zM → Prop) (px : String → zM → Prop)  (y2 : Int32) (M : zM) : Prop := Z E jX12_palest (D + 1) 0 (zQi post px) 37 0 [.ref 0, zU, .int y2] [] M
def w_X12_palest_39 (E : zEv) (D : Nat) (post : Int32 → zM → Prop) (px : String → zM → Prop)  (y1 : Int32) (y2 : Int32) (M : zM) : Prop := Z E jX12_palest (D + 1) 0 (zQi post px) 39 0 [.ref 0, .int y1, .int y2] [] M
theorem e_X12_palest {E : zEv} {D : Nat} {post : Int32 → zM → Prop} {px : String → zM → Prop} {M : zM}   (h : ∀ M1 : zM, M1 = zup M 0 0 (0 : Int32) → w_X12_palest_9 E D post px (-1 : Int32) (0 : Int32) M1) : zCi E jX12_palest (D + 1) 0 [.ref 0] M post px := by
  refine z_meth (by decide) (Nat.le_of_ble_eq_true rfl) ?_
  show Z E jX12_palest (D + 1) 0 (zQi post px) 0 0 [.ref 0, zU, zU] [] M
  refine z_aload_n dX12_palest_0 rfl ?_
  refine z_iconst (v := (0 : Int32)) dX12_palest_1 rfl ?_
  refine z_putI dX12_palest_2 zp_X12_3 zs_0 rfl rfl rfl ?_
  generalize hhM1 : zup M 0 0 (0 : Int32) = M1
  have h2 := h M1 hhM1.symm
  refine z_iconst (v := (-1 : Int32)) dX12_palest_5 rfl ?_
  refine z_istore_n dX12_palest_6 (by decide) (ls' := [.ref 0, .int (-1 : Int32), zU]) rfl ?_
  refine z_iconst (v := (0 : Int32)) dX12_palest_7 rfl ?_
  refine z_istore_n dX12_palest_8 (by decide) (ls' := [.ref 0, .int (-1 : Int32), .int (0 : Int32)]) rfl ?_
  exact h2
theorem t_X12_palest_9 {E : zEv} {D : Nat} {post : Int32 → zM → Prop} {px : String → zM → Prop} {M : zM}   {y1 : Int32} {y2 : Int32} (h : zCi E jX12_witnesses D 0 [.ref 0] M (fun r3 M1 => ((r3 ≤ y2 → post y1 M1) ∧ (¬ r3 ≤ y2 → ((y1 = (-1 : Int32) → w_X12_palest_37 E D post px y2 M1) ∧ (¬ y1 = (-1 : Int32) → zCi E jX12_of D 0 [.ref 0, .int y2, .int (3 : Int32)] M1 (fun r12 M10 => zCi E jX12_of D 0 [.ref 0, .int y1, .int (3 : Int32)] M10 (fun r15 M13 => ((r15 ≤ r12 → w_X12_palest_39 E D post px y1 y2 M13) ∧ (¬ r15 ≤ r12 → w_X12_palest_37 E D post px y2 M13))) px) px))))) px) : w_X12_palest_9 E D post px y1 y2 M := by
  show Z E jX12_palest (D + 1) 0 (zQi post px) 9 0 [.ref 0, .int y1, .int y2] [] M
  refine z_iload_n dX12_palest_9 rfl ?_
  refine z_aload_n dX12_palest_10 rfl ?_
  refine z_callVi (As := []) (st := [.int y2]) dX12_palest_11 zi_X12_92 rfl rfl zs_0 rfl rfl (Nat.le_of_ble_eq_true rfl) (by decide) (fun _ _ hx => hx) h ?_
  intro r3 M1 h2
  refine z_icmp_ge (tgt := 45) dX12_palest_14 (by decide) (fun g4 => ?_) (fun g4 => ?_)
  · have h5 := h2.1 g4
    refine z_iload_n dX12_palest_45 rfl ?_
    exact z_iret dX12_palest_46 rfl rfl (by decide) h5
  · have h6 := h2.2 g4
    refine z_iload_n dX12_palest_17 rfl ?_
    refine z_iconst (v := (-1 : Int32)) dX12_palest_18 rfl ?_
    refine z_icmp_eq (tgt := 37) dX12_palest_19 (by decide) (fun g7 => ?_) (fun g7 => ?_)
    · have h8 := h6.1 g7
      refine z_weak [true, false, true] (ls' := [.ref 0, zU, .int y2]) rfl rfl ?_
      exact h8
    · have h9 := h6.2 g7
      refine z_aload_n dX12_palest_22 rfl ?_
      refine z_iload_n dX12_palest_23 rfl ?_
      refine z_iconst (v := (3 : Int32)) dX12_palest_24 rfl ?_
      refine z_callVi (As := [.int y2, .int (3 : Int32)]) (st := []) dX12_palest_25 zi_X12_285 rfl rfl zs_0 rfl rfl (Nat.le_of_ble_eq_true rfl) (by decide) (fun _ _ hx => hx) h9 ?_
      intro r12 M10 h11
      refine z_aload_n dX12_palest_28 rfl ?_
      refine z_iload_n dX12_palest_29 rfl ?_
      refine z_iconst (v := (3 : Int32)) dX12_palest_30 rfl ?_
      refine z_callVi (As := [.int y1, .int (3 : Int32)]) (st := [.int r12]) dX12_palest_31 zi_X12_285 rfl rfl zs_0 rfl rfl (Nat.le_of_ble_eq_true rfl) (by decide) (fun _ _ hx => hx) h11 ?_
      intro r15 M13 h14
      refine z_icmp_ge (tgt := 39) dX12_palest_34 (by decide) (fun g16 => ?_) (fun g16 => ?_)
      · have h17 := h14.1 g16
        exact h17
      · have h18 := h14.2 g16
        refine z_weak [true, false, true] (ls' := [.ref 0, zU, .int y2]) rfl rfl ?_
        exact h18
theorem t_X12_palest_37 {E : zEv} {D : Nat} {post : Int32 → zM → Prop} {px : String → zM → Prop} {M : zM}   {y2 : Int32} (h : w_X12_palest_39 E D post px y2 y2 M) : w_X12_palest_37 E D post px y2 M := by
  show Z E jX12_palest (D + 1) 0 (zQi post px) 37 0 [.ref 0, zU, .int y2] [] M
  refine z_iload_n dX12_palest_37 rfl ?_
  refine z_istore_n dX12_palest_38 (by decide) (ls' := [.ref 0, .int y2, .int y2]) rfl ?_
  exact h
theorem t_X12_palest_39 {E : zEv} {D : Nat} {post : Int32 → zM → Prop} {px : String → zM → Prop} {M : zM}   {y1 : Int32} {y2 : Int32} (h : w_X12_palest_9 E D post px y1 (y2 + (1 : Int32)) M) : w_X12_palest_39 E D post px y1 y2 M := by
  show Z E jX12_palest (D + 1) 0 (zQi post px) 39 0 [.ref 0, .int y1, .int y2] [] M
  refine z_iinc dX12_palest_39 rfl (by decide) (ls' := [.ref 0, .int y1, .int (y2 + (1 : Int32))]) rfl ?_
  refine z_goto (tgt := 9) dX12_palest_42 (by decide) ?_
  exact h
theorem e_X12_risenAt {E : zEv} {D : Nat} {post : Int32 → zM → Prop} {px : String → zM → Prop} {M : zM} {x1 : Int32} {x2 : Int32} {x3 : Int32}  (h : post (((5 : Int32) * ((x1 <<< ((6 : Int32) &&& 31)) + x2)) + x3) M) : zCi E jX12_risenAt D 0 [.int x1, .int x2, .int x3] M post px := by
  refine z_meth (by decide) (Nat.le_of_ble_eq_true rfl) ?_
  show Z E jX12_risenAt D 0 (zQi post px) 0 0 [.int x1, .int x2, .int x3] [] M
  refine z_iconst (v := (5 : Int32)) dX12_risenAt_0 rfl ?_
  refine z_iload_n dX12_risenAt_1 rfl ?_
  refine z_bipush (v := (6 : Int32)) dX12_risenAt_2 rfl ?_
  refine z_ishl dX12_risenAt_4 ?_
  refine z_iload_n dX12_risenAt_5 rfl ?_
  refine z_iadd dX12_risenAt_6 ?_
  refine z_imul dX12_risenAt_7 ?_
  refine z_iload_n dX12_risenAt_8 rfl ?_
  refine z_iadd dX12_risenAt_9 ?_
  exact z_iret dX12_risenAt_10 rfl rfl (by decide) h
def w_X12_laysWorlds_2 (E : zEv) (D : Nat) (post : zM → Prop) (px : String → zM → Prop)  (y1 : Int32) (M : zM) : Prop := Z E jX12_laysWorlds (D + 1) 0 (zQv post px) 2 0 [.ref 0, .int y1, zU, zU] [] M
def w_X12_laysWorlds_12 (E : zEv) (D : Nat) (post : zM → Prop) (px : String → zM → Prop)  (y1 : Int32) (y2 : Int32) (M : zM) : Prop := Z E jX12_laysWorlds (D + 1) 0 (zQv post px) 12 0 [.ref 0, .int y1, .int y2, zU] [] M
def w_X12_laysWorlds_37 (E : zEv) (D : Nat) (post : zM → Prop) (px : String → zM → Prop)  (y1 : Int32) (y2 : Int32) (y3 : Int32) (M : zM) : Prop := Z E jX12_laysWorlds (D + 1) 0 (zQv post px) 37 0 [.ref 0, .int y1, .int y2, .int y3] [] M
def w_X12_laysWorlds_70 (E : zEv) (D : Nat) (post : zM → Prop) (px : String → zM → Prop)  (y1 : Int32) (y2 : Int32) (y3 : Int32) (s0 : Int32) (s1 : Int32) (M : zM) : Prop := Z E jX12_laysWorlds (D + 1) 0 (zQv post px) 70 0 [.ref 0, .int y1, .int y2, .int y3] [.int s0, .int s1, .ref 11] M
theorem e_X12_laysWorlds {E : zEv} {D : Nat} {post : zM → Prop} {px : String → zM → Prop} {M : zM}   (h : w_X12_laysWorlds_2 E D post px (0 : Int32) M) : zCv E jX12_laysWorlds (D + 1) 0 [.ref 0] M post px := by
  refine z_meth (by decide) (Nat.le_of_ble_eq_true rfl) ?_
  show Z E jX12_laysWorlds (D + 1) 0 (zQv post px) 0 0 [.ref 0, zU, zU, zU] [] M
  refine z_iconst (v := (0 : Int32)) dX12_laysWorlds_0 rfl ?_
  refine z_istore_n dX12_laysWorlds_1 (by decide) (ls' := [.ref 0, .int (0 : Int32), zU, zU]) rfl ?_
  exact h
theorem t_X12_laysWorlds_2 {E : zEv} {D : Nat} {post : zM → Prop} {px : String → zM → Prop} {M : zM}   {y1 : Int32} (h : zCi E jX12_questions D 0 [.ref 0] M (fun r3 M1 => ((r3 ≤ y1 → post M1) ∧ (¬ r3 ≤ y1 → w_X12_laysWorlds_12 E D post px y1 (0 : Int32) M1))) px) : w_X12_laysWorlds_2 E D post px y1 M := by
  show Z E jX12_laysWorlds (D + 1) 0 (zQv post px) 2 0 [.ref 0, .int y1, zU, zU] [] M
  refine z_iload_n dX12_laysWorlds_2 rfl ?_
  refine z_aload_n dX12_laysWorlds_3 rfl ?_
  refine z_callVi (As := []) (st := [.int y1]) dX12_laysWorlds_4 zi_X12_99 rfl rfl zs_0 rfl rfl (Nat.le_of_ble_eq_true rfl) (by decide) (fun _ _ hx => hx) h ?_
  intro r3 M1 h2
  refine z_icmp_ge (tgt := 89) dX12_laysWorlds_7 (by decide) (fun g4 => ?_) (fun g4 => ?_)
  · have h5 := h2.1 g4
    exact z_vret dX12_laysWorlds_89 rfl (by decide) h5
  · have h6 := h2.2 g4
    refine z_iconst (v := (0 : Int32)) dX12_laysWorlds_10 rfl ?_
    refine z_istore_n dX12_laysWorlds_11 (by decide) (ls' := [.ref 0, .int y1, .int (0 : Int32), zU]) rfl ?_
    exact h6
theorem t_X12_laysWorlds_12 {E : zEv} {D : Nat} {post : zM → Prop} {px : String → zM → Prop} {M : zM}   {y1 : Int32} {y2 : Int32} (h : zCi E jX12_allThings D 0 [.ref 0] M (fun r3 M1 => ((r3 < y2 → w_X12_laysWorlds_2 E D post px (y1 + (1 : Int32)) M1) ∧ (¬ r3 < y2 → vp_in ((12 : Int32) + y1) 2070 ∧ zCv E jX12_lays D 0 [.ref 0, .int ((M1.1 1 (((12 : Int32) + y1)).toNatClampNeg) &&& y2)] M1 (fun M9 => w_X12_laysWorlds_37 E D post px y1 y2 (0 : Int32) M9) px))) px) : w_X12_laysWorlds_12 E D post px y1 y2 M := by
  show Z E jX12_laysWorlds (D + 1) 0 (zQv post px) 12 0 [.ref 0, .int y1, .int y2, zU] [] M
  refine z_iload_n dX12_laysWorlds_12 rfl ?_
  refine z_aload_n dX12_laysWorlds_13 rfl ?_
  refine z_callVi (As := []) (st := [.int y2]) dX12_laysWorlds_14 zi_X12_403 rfl rfl zs_0 rfl rfl (Nat.le_of_ble_eq_true rfl) (by decide) (fun _ _ hx => hx) h ?_
  intro r3 M1 h2
  refine z_icmp_gt (tgt := 83) dX12_laysWorlds_17 (by decide) (fun g4 => ?_) (fun g4 => ?_)
  · have h5 := h2.1 g4
    refine z_iinc dX12_laysWorlds_83 rfl (by decide) (ls' := [.ref 0, .int (y1 + (1 : Int32)), .int y2, zU]) rfl ?_
    refine z_goto (tgt := 2) dX12_laysWorlds_86 (by decide) ?_
    refine z_weak [true, true, false, false] (ls' := [.ref 0, .int (y1 + (1 : Int32)), zU, zU]) rfl rfl ?_
    exact h5
  · have h6 := h2.2 g4
    refine z_aload_n dX12_laysWorlds_20 rfl ?_
    refine z_aload_n dX12_laysWorlds_21 rfl ?_
    refine z_getR dX12_laysWorlds_22 zg_X12_13 zs_0 rfl ?_
    refine z_bipush (v := (12 : Int32)) dX12_laysWorlds_25 rfl ?_
    refine z_iload_n dX12_laysWorlds_27 rfl ?_
    refine z_iadd dX12_laysWorlds_28 ?_
    obtain ⟨g8, h7⟩ := h6
    refine z_iald dX12_laysWorlds_29 zs_1 g8 ?_
    refine z_iload_n dX12_laysWorlds_30 rfl ?_
    refine z_iand dX12_laysWorlds_31 ?_
    refine z_callVv (As := [.int ((M1.1 1 (((12 : Int32) + y1)).toNatClampNeg) &&& y2)]) (st := []) dX12_laysWorlds_32 zi_X12_325 rfl rfl zs_0 rfl rfl (Nat.le_of_ble_eq_true rfl) (by decide) (fun _ _ hx => hx) h7 ?_
    intro M9 h10
    refine z_iconst (v := (0 : Int32)) dX12_laysWorlds_35 rfl ?_
    refine z_istore_n dX12_laysWorlds_36 (by decide) (ls' := [.ref 0, .int y1, .int y2, .int (0 : Int32)]) rfl ?_
    exact h10
theorem t_X12_laysWorlds_37 {E : zEv} {D : Nat} {post : zM → Prop} {px : String → zM → Prop} {M : zM}   {y1 : Int32} {y2 : Int32} {y3 : Int32} (h : (((5 : Int32) ≤ y3 → w_X12_laysWorlds_12 E D post px y1 (y2 + (1 : Int32)) M) ∧ (¬ (5 : Int32) ≤ y3 → zCi E jX12_risenAt D 0 [.int y1, .int y2, .int y3] M (fun r6 M4 => zCi E jX12_witnesses D 0 [.ref 0] M4 (fun r9 M7 => ((r9 ≤ y3 → w_X12_laysWorlds_70 E D post px y1 y2 y3 (0 : Int32) r6 M7) ∧ (¬ r9 ≤ y3 → vp_in y3 5 ∧ w_X12_laysWorlds_70 E D post px y1 y2 y3 (M7.1 9 (y3).toNatClampNeg) r6 M7))) px) px))) : w_X12_laysWorlds_37 E D post px y1 y2 y3 M := by
  show Z E jX12_laysWorlds (D + 1) 0 (zQv post px) 37 0 [.ref 0, .int y1, .int y2, .int y3] [] M
  refine z_iload_n dX12_laysWorlds_37 rfl ?_
  refine z_iconst (v := (5 : Int32)) dX12_laysWorlds_38 rfl ?_
  refine z_icmp_ge (tgt := 77) dX12_laysWorlds_39 (by decide) (fun g1 => ?_) (fun g1 => ?_)
  · have h2 := h.1 g1
    refine z_iinc dX12_laysWorlds_77 rfl (by decide) (ls' := [.ref 0, .int y1, .int (y2 + (1 : Int32)), .int y3]) rfl ?_
    refine z_goto (tgt := 12) dX12_laysWorlds_80 (by decide) ?_
    refine z_weak [true, true, true, false] (ls' := [.ref 0, .int y1, .int (y2 + (1 : Int32)), zU]) rfl rfl ?_
    exact h2
  · have h3 := h.2 g1
    refine z_aload_n dX12_laysWorlds_42 rfl ?_
    refine z_getR dX12_laysWorlds_43 zg_X12_48 zs_0 rfl ?_
    refine z_iload_n dX12_laysWorlds_46 rfl ?_
    refine z_iload_n dX12_laysWorlds_47 rfl ?_
    refine z_iload_n dX12_laysWorlds_48 rfl ?_
    refine z_callSi (As := [.int y1, .int y2, .int y3]) (st := [.ref 11]) dX12_laysWorlds_49 zi_X12_418 rfl rfl (Nat.le_of_ble_eq_true rfl) (by decide) (fun _ _ hx => hx) h3 ?_
    intro r6 M4 h5
    refine z_iload_n dX12_laysWorlds_52 rfl ?_
    refine z_aload_n dX12_laysWorlds_53 rfl ?_
    refine z_callVi (As := []) (st := [.int y3, .int r6, .ref 11]) dX12_laysWorlds_54 zi_X12_92 rfl rfl zs_0 rfl rfl (Nat.le_of_ble_eq_true rfl) (by decide) (fun _ _ hx => hx) h5 ?_
    intro r9 M7 h8
    refine z_icmp_ge (tgt := 69) dX12_laysWorlds_57 (by decide) (fun g10 => ?_) (fun g10 => ?_)
    · have h11 := h8.1 g10
      refine z_iconst (v := (0 : Int32)) dX12_laysWorlds_69 rfl ?_
      exact h11
    · have h12 := h8.2 g10
      refine z_aload_n dX12_laysWorlds_60 rfl ?_
      refine z_getR dX12_laysWorlds_61 zg_X12_42 zs_0 rfl ?_
      refine z_iload_n dX12_laysWorlds_64 rfl ?_
      obtain ⟨g14, h13⟩ := h12
      refine z_iald dX12_laysWorlds_65 zs_9 g14 ?_
      refine z_goto (tgt := 70) dX12_laysWorlds_66 (by decide) ?_
      exact h13
theorem t_X12_laysWorlds_70 {E : zEv} {D : Nat} {post : zM → Prop} {px : String → zM → Prop} {M : zM}   {y1 : Int32} {y2 : Int32} {y3 : Int32} {s0 : Int32} {s1 : Int32} (h : vp_in s1 2560 ∧ ∀ M3 : zM, M3 = zup M 11 (s1).toNatClampNeg s0 → w_X12_laysWorlds_37 E D post px y1 y2 (y3 + (1 : Int32)) M3) : w_X12_laysWorlds_70 E D post px y1 y2 y3 s0 s1 M := by
  show Z E jX12_laysWorlds (D + 1) 0 (zQv post px) 70 0 [.ref 0, .int y1, .int y2, .int y3] [.int s0, .int s1, .ref 11] M
  obtain ⟨g2, h1⟩ := h
  refine z_iast dX12_laysWorlds_70 zs_11 g2 ?_
  generalize hhM3 : zup M 11 (s1).toNatClampNeg s0 = M3
  have h4 := h1 M3 hhM3.symm
  refine z_iinc dX12_laysWorlds_71 rfl (by decide) (ls' := [.ref 0, .int y1, .int y2, .int (y3 + (1 : Int32))]) rfl ?_
  refine z_goto (tgt := 37) dX12_laysWorlds_74 (by decide) ?_
  exact h4
def w_X12_alikeBy_6 (E : zEv) (D : Nat) (post : Int32 → zM → Prop) (px : String → zM → Prop)  (y1 : Int32) (y2 : Int32) (y3 : Int32) (y4 : Int32) (y5 : Int32) (M : zM) : Prop := Z E jX12_alikeBy (D + 1) 0 (zQi post px) 6 0 [.ref 0, .int y1, .int y2, .int y3, .int y4, .int y5] [] M
def w_X12_alikeBy_51 (E : zEv) (D : Nat) (post : Int32 → zM → Prop) (px : String → zM → Prop)  (y1 : Int32) (y2 : Int32) (y3 : Int32) (y5 : Int32) (M : zM) : Prop := Z E jX12_alikeBy (D + 1) 0 (zQi post px) 51 0 [.ref 0, .int y1, .int y2, .int y3, zU, .int y5] [] M
def w_X12_alikeBy_52 (E : zEv) (D : Nat) (post : Int32 → zM → Prop) (px : String → zM → Prop)  (y1 : Int32) (y2 : Int32) (y3 : Int32) (y5 : Int32) (s0 : Int32) (M : zM) : Prop := Z E jX12_alikeBy (D + 1) 0 (zQi post px) 52 0 [.ref 0, .int y1, .int y2, .int y3, zU, .int y5] [.int s0] M
theorem e_X12_alikeBy {E : zEv} {D : Nat} {post : Int32 → zM → Prop} {px : String → zM → Prop} {M : zM} {x1 : Int32} {x2 : Int32} {x3 : Int32}  (h : w_X12_alikeBy_6 E D post px x1 x2 x3 (1 : Int32) (0 : Int32) M) : zCi E jX12_alikeBy (D + 1) 0 [.ref 0, .int x1, .int x2, .int x3] M post px := by
  refine z_meth (by decide) (Nat.le_of_ble_eq_true rfl) ?_
  show Z E jX12_alikeBy (D + 1) 0 (zQi post px) 0 0 [.ref 0, .int x1, .int x2, .int x3, zU, zU] [] M
  refine z_iconst (v := (1 : Int32)) dX12_alikeBy_0 rfl ?_
  refine z_istore dX12_alikeBy_1 (by decide) (ls' := [.ref 0, .int x1, .int x2, .int x3, .int (1 : Int32), zU]) rfl ?_
  refine z_iconst (v := (0 : Int32)) dX12_alikeBy_3 rfl ?_
  refine z_istore dX12_alikeBy_4 (by decide) (ls' := [.ref 0, .int x1, .int x2, .int x3, .int (1 : Int32), .int (0 : Int32)]) rfl ?_
  exact h
theorem t_X12_alikeBy_6 {E : zEv} {D : Nat} {post : Int32 → zM → Prop} {px : String → zM → Prop} {M : zM}   {y1 : Int32} {y2 : Int32} {y3 : Int32} {y4 : Int32} {y5 : Int32} (h : zCi E jX12_witnesses D 0 [.ref 0] M (fun r3 M1 => ((r3 ≤ y5 → (y4 = 0 ∨ y4 = 1) ∧ post y4 M1) ∧ (¬ r3 ≤ y5 → ((y4 = 0 → w_X12_alikeBy_51 E D post px y1 y2 y3 y5 M1) ∧ (¬ y4 = 0 → zCi E jX12_risenAt D 0 [.int y1, .int y2, .int y5] M1 (fun r14 M12 => vp_in r14 2560 ∧ zCi E jX12_risenAt D 0 [.int y1, .int y3, .int y5] M12 (fun r19 M17 => vp_in r19 2560 ∧ ((¬ (M12.1 11 (r14).toNatClampNeg) = (M17.1 11 (r19).toNatClampNeg) → w_X12_alikeBy_51 E D post px y1 y2 y3 y5 M17) ∧ ((M12.1 11 (r14).toNatClampNeg) = (M17.1 11 (r19).toNatClampNeg) → w_X12_alikeBy_52 E D post px y1 y2 y3 y5 (1 : Int32) M17))) px) px))))) px) : w_X12_alikeBy_6 E D post px y1 y2 y3 y4 y5 M := by
  show Z E jX12_alikeBy (D + 1) 0 (zQi post px) 6 0 [.ref 0, .int y1, .int y2, .int y3, .int y4, .int y5] [] M
  refine z_iload dX12_alikeBy_6 rfl ?_
  refine z_aload_n dX12_alikeBy_8 rfl ?_
  refine z_callVi (As := []) (st := [.int y5]) dX12_alikeBy_9 zi_X12_92 rfl rfl zs_0 rfl rfl (Nat.le_of_ble_eq_true rfl) (by decide) (fun _ _ hx => hx) h ?_
  intro r3 M1 h2
  refine z_icmp_ge (tgt := 60) dX12_alikeBy_12 (by decide) (fun g4 => ?_) (fun g4 => ?_)
  · have h5 := h2.1 g4
    refine z_iload dX12_alikeBy_60 rfl ?_
    obtain ⟨g8, h7⟩ := h5
    exact z_iret dX12_alikeBy_62 rfl (zbool g8) (by decide) h7
  · have h6 := h2.2 g4
    refine z_iload dX12_alikeBy_15 rfl ?_
    refine z_if_eq (tgt := 51) dX12_alikeBy_17 (by decide) (fun g9 => ?_) (fun g9 => ?_)
    · have h10 := h6.1 g9
      refine z_weak [true, true, true, true, false, true] (ls' := [.ref 0, .int y1, .int y2, .int y3, zU, .int y5]) rfl rfl ?_
      exact h10
    · have h11 := h6.2 g9
      refine z_aload_n dX12_alikeBy_20 rfl ?_
      refine z_getR dX12_alikeBy_21 zg_X12_48 zs_0 rfl ?_
      refine z_iload_n dX12_alikeBy_24 rfl ?_
      refine z_iload_n dX12_alikeBy_25 rfl ?_
      refine z_iload dX12_alikeBy_26 rfl ?_
      refine z_callSi (As := [.int y1, .int y2, .int y5]) (st := [.ref 11]) dX12_alikeBy_28 zi_X12_418 rfl rfl (Nat.le_of_ble_eq_true rfl) (by decide) (fun _ _ hx => hx) h11 ?_
      intro r14 M12 h13
      obtain ⟨g16, h15⟩ := h13
      refine z_iald dX12_alikeBy_31 zs_11 g16 ?_
      refine z_aload_n dX12_alikeBy_32 rfl ?_
      refine z_getR dX12_alikeBy_33 zg_X12_48 zs_0 rfl ?_
      refine z_iload_n dX12_alikeBy_36 rfl ?_
      refine z_iload_n dX12_alikeBy_37 rfl ?_
      refine z_iload dX12_alikeBy_38 rfl ?_
      refine z_callSi (As := [.int y1, .int y3, .int y5]) (st := [.ref 11, .int (M12.1 11 (r14).toNatClampNeg)]) dX12_alikeBy_40 zi_X12_418 rfl rfl (Nat.le_of_ble_eq_true rfl) (by decide) (fun _ _ hx => hx) h15 ?_
      intro r19 M17 h18
      obtain ⟨g21, h20⟩ := h18
      refine z_iald dX12_alikeBy_43 zs_11 g21 ?_
      refine z_icmp_ne (tgt := 51) dX12_alikeBy_44 (by decide) (fun g22 => ?_) (fun g22 => ?_)
      · have h23 := h20.1 g22
        refine z_weak [true, true, true, true, false, true] (ls' := [.ref 0, .int y1, .int y2, .int y3, zU, .int y5]) rfl rfl ?_
        exact h23
      · have h24 := h20.2 g22
        refine z_iconst (v := (1 : Int32)) dX12_alikeBy_47 rfl ?_
        refine z_goto (tgt := 52) dX12_alikeBy_48 (by decide) ?_
        refine z_weak [true, true, true, true, false, true] (ls' := [.ref 0, .int y1, .int y2, .int y3, zU, .int y5]) rfl rfl ?_
        exact h24
theorem t_X12_alikeBy_51 {E : zEv} {D : Nat} {post : Int32 → zM → Prop} {px : String → zM → Prop} {M : zM}   {y1 : Int32} {y2 : Int32} {y3 : Int32} {y5 : Int32} (h : w_X12_alikeBy_52 E D post px y1 y2 y3 y5 (0 : Int32) M) : w_X12_alikeBy_51 E D post px y1 y2 y3 y5 M := by
  show Z E jX12_alikeBy (D + 1) 0 (zQi post px) 51 0 [.ref 0, .int y1, .int y2, .int y3, zU, .int y5] [] M
  refine z_iconst (v := (0 : Int32)) dX12_alikeBy_51 rfl ?_
  exact h
theorem t_X12_alikeBy_52 {E : zEv} {D : Nat} {post : Int32 → zM → Prop} {px : String → zM → Prop} {M : zM}   {y1 : Int32} {y2 : Int32} {y3 : Int32} {y5 : Int32} {s0 : Int32} (h : w_X12_alikeBy_6 E D post px y1 y2 y3 s0 (y5 + (1 : Int32)) M) : w_X12_alikeBy_52 E D post px y1 y2 y3 y5 s0 M := by
  show Z E jX12_alikeBy (D + 1) 0 (zQi post px) 52 0 [.ref 0, .int y1, .int y2, .int y3, zU, .int y5] [.int s0] M
  refine z_istore dX12_alikeBy_52 (by decide) (ls' := [.ref 0, .int y1, .int y2, .int y3, .int s0, .int y5]) rfl ?_
  refine z_iinc dX12_alikeBy_54 rfl (by decide) (ls' := [.ref 0, .int y1, .int y2, .int y3, .int s0, .int (y5 + (1 : Int32))]) rfl ?_
  refine z_goto (tgt := 6) dX12_alikeBy_57 (by decide) ?_
  exact h
def w_X12_isRows_22 (E : zEv) (D : Nat) (post : Int32 → zM → Prop) (px : String → zM → Prop)   (M : zM) : Prop := Z E jX12_isRows (D + 1) 0 (zQi post px) 22 0 [.ref 0, zU, zU] [] M
def w_X12_isRows_23 (E : zEv) (D : Nat) (post : Int32 → zM → Prop) (px : String → zM → Prop)  (s0 : Int32) (M : zM) : Prop := Z E jX12_isRows (D + 1) 0 (zQi post px) 23 0 [.ref 0, zU, zU] [.int s0] M
def w_X12_isRows_26 (E : zEv) (D : Nat) (post : Int32 → zM → Prop) (px : String → zM → Prop)  (y1 : Int32) (y2 : Int32) (M : zM) : Prop := Z E jX12_isRows (D + 1) 0 (zQi post px) 26 0 [.ref 0, .int y1, .int y2] [] M
def w_X12_isRows_78 (E : zEv) (D : Nat) (post : Int32 → zM → Prop) (px : String → zM → Prop)  (y1 : Int32) (M : zM) : Prop := Z E jX12_isRows (D + 1) 0 (zQi post px) 78 0 [zU, .int y1, zU] [] M
def w_X12_isRows_70 (E : zEv) (D : Nat) (post : Int32 → zM → Prop) (px : String → zM → Prop)  (y2 : Int32) (M : zM) : Prop := Z E jX12_isRows (D + 1) 0 (zQi post px) 70 0 [.ref 0, zU, .int y2] [] M
def w_X12_isRows_71 (E : zEv) (D : Nat) (post : Int32 → zM → Prop) (px : String → zM → Prop)  (y2 : Int32) (s0 : Int32) (M : zM) : Prop := Z E jX12_isRows (D + 1) 0 (zQi post px) 71 0 [.ref 0, zU, .int y2] [.int s0] M
theorem e_X12_isRows {E : zEv} {D : Nat} {post : Int32 → zM → Prop} {px : String → zM → Prop} {M : zM}   (h : ((¬ (zrem (M.1 0 11) (3 : Int32)) = 0 → w_X12_isRows_22 E D post px  M) ∧ ((zrem (M.1 0 11) (3 : Int32)) = 0 → (((45 : Int32) < (M.1 0 11) → w_X12_isRows_22 E D post px  M) ∧ (¬ (45 : Int32) < (M.1 0 11) → w_X12_isRows_23 E D post px (1 : Int32) M))))) : zCi E jX12_isRows (D + 1) 0 [.ref 0] M post px := by
  refine z_meth (by decide) (Nat.le_of_ble_eq_true rfl) ?_
  show Z E jX12_isRows (D + 1) 0 (zQi post px) 0 0 [.ref 0, zU, zU] [] M
  refine z_aload_n dX12_isRows_0 rfl ?_
  refine z_getI dX12_isRows_1 zg_X12_112 zs_0 rfl ?_
  refine z_iconst (v := (3 : Int32)) dX12_isRows_4 rfl ?_
  refine z_irem dX12_isRows_5 (by decide) ?_
  refine z_if_ne (tgt := 22) dX12_isRows_6 (by decide) (fun g1 => ?_) (fun g1 => ?_)
  · have h2 := h.1 g1
    exact h2
  · have h3 := h.2 g1
    refine z_aload_n dX12_isRows_9 rfl ?_
    refine z_getI dX12_isRows_10 zg_X12_112 zs_0 rfl ?_
    refine z_bipush (v := (45 : Int32)) dX12_isRows_13 rfl ?_
    refine z_icmp_gt (tgt := 22) dX12_isRows_15 (by decide) (fun g4 => ?_) (fun g4 => ?_)
    · have h5 := h3.1 g4
      exact h5
    · have h6 := h3.2 g4
      refine z_iconst (v := (1 : Int32)) dX12_isRows_18 rfl ?_
      refine z_goto (tgt := 23) dX12_isRows_19 (by decide) ?_
      exact h6
theorem t_X12_isRows_22 {E : zEv} {D : Nat} {post : Int32 → zM → Prop} {px : String → zM → Prop} {M : zM}    (h : w_X12_isRows_23 E D post px (0 : Int32) M) : w_X12_isRows_22 E D post px  M := by
  show Z E jX12_isRows (D + 1) 0 (zQi post px) 22 0 [.ref 0, zU, zU] [] M
  refine z_iconst (v := (0 : Int32)) dX12_isRows_22 rfl ?_
  exact h
theorem t_X12_isRows_23 {E : zEv} {D : Nat} {post : Int32 → zM → Prop} {px : String → zM → Prop} {M : zM}   {s0 : Int32} (h : w_X12_isRows_26 E D post px s0 (0 : Int32) M) : w_X12_isRows_23 E D post px s0 M := by
  show Z E jX12_isRows (D + 1) 0 (zQi post px) 23 0 [.ref 0, zU, zU] [.int s0] M
  refine z_istore_n dX12_isRows_23 (by decide) (ls' := [.ref 0, .int s0, zU]) rfl ?_
  refine z_iconst (v := (0 : Int32)) dX12_isRows_24 rfl ?_
  refine z_istore_n dX12_isRows_25 (by decide) (ls' := [.ref 0, .int s0, .int (0 : Int32)]) rfl ?_
  exact h
theorem t_X12_isRows_26 {E : zEv} {D : Nat} {post : Int32 → zM → Prop} {px : String → zM → Prop} {M : zM}   {y1 : Int32} {y2 : Int32} (h : (((M.1 0 11) ≤ y2 → w_X12_isRows_78 E D post px y1 M) ∧ (¬ (M.1 0 11) ≤ y2 → ((y1 = 0 → w_X12_isRows_78 E D post px y1 M) ∧ (¬ y1 = 0 → vp_in y2 400 ∧ zCi E jX12_noQuestion D 0 [.ref 0, .int (M.1 6 (y2).toNatClampNeg)] M (fun r11 M9 => ((¬ r11 = 0 → w_X12_isRows_70 E D post px y2 M9) ∧ (r11 = 0 → vp_in (y2 + (1 : Int32)) 400 ∧ zCi E jX12_noWitness D 0 [.ref 0, .int (M9.1 6 ((y2 + (1 : Int32))).toNatClampNeg)] M9 (fun r19 M17 => ((¬ r19 = 0 → w_X12_isRows_70 E D post px y2 M17) ∧ (r19 = 0 → w_X12_isRows_71 E D post px y2 (1 : Int32) M17))) px))) px))))) : w_X12_isRows_26 E D post px y1 y2 M := by
  show Z E jX12_isRows (D + 1) 0 (zQi post px) 26 0 [.ref 0, .int y1, .int y2] [] M
  refine z_iload_n dX12_isRows_26 rfl ?_
  refine z_aload_n dX12_isRows_27 rfl ?_
  refine z_getI dX12_isRows_28 zg_X12_112 zs_0 rfl ?_
  refine z_icmp_ge (tgt := 78) dX12_isRows_31 (by decide) (fun g1 => ?_) (fun g1 => ?_)
  · have h2 := h.1 g1
    refine z_weak [false, true, false] (ls' := [zU, .int y1, zU]) rfl rfl ?_
    exact h2
  · have h3 := h.2 g1
    refine z_iload_n dX12_isRows_34 rfl ?_
    refine z_if_eq (tgt := 78) dX12_isRows_35 (by decide) (fun g4 => ?_) (fun g4 => ?_)
    · have h5 := h3.1 g4
      refine z_weak [false, true, false] (ls' := [zU, .int y1, zU]) rfl rfl ?_
      exact h5
    · have h6 := h3.2 g4
      refine z_aload_n dX12_isRows_38 rfl ?_
      refine z_aload_n dX12_isRows_39 rfl ?_
      refine z_getR dX12_isRows_40 zg_X12_29 zs_0 rfl ?_
      refine z_iload_n dX12_isRows_43 rfl ?_
      obtain ⟨g8, h7⟩ := h6
      refine z_bald dX12_isRows_44 zs_6 g8 ?_
      refine z_callVi (As := [.int (M.1 6 (y2).toNatClampNeg)]) (st := []) dX12_isRows_45 zi_X12_391 rfl rfl zs_0 rfl rfl (Nat.le_of_ble_eq_true rfl) (by decide) (fun _ _ hx => hx) h7 ?_
      intro r11 M9 h10
      refine z_if_ne (tgt := 70) dX12_isRows_48 (by decide) (fun g12 => ?_) (fun g12 => ?_)
      · have h13 := h10.1 g12
        refine z_weak [true, false, true] (ls' := [.ref 0, zU, .int y2]) rfl rfl ?_
        exact h13
      · have h14 := h10.2 g12
        refine z_aload_n dX12_isRows_51 rfl ?_
        refine z_aload_n dX12_isRows_52 rfl ?_
        refine z_getR dX12_isRows_53 zg_X12_29 zs_0 rfl ?_
        refine z_iload_n dX12_isRows_56 rfl ?_
        refine z_iconst (v := (1 : Int32)) dX12_isRows_57 rfl ?_
        refine z_iadd dX12_isRows_58 ?_
        obtain ⟨g16, h15⟩ := h14
        refine z_bald dX12_isRows_59 zs_6 g16 ?_
        refine z_callVi (As := [.int (M9.1 6 ((y2 + (1 : Int32))).toNatClampNeg)]) (st := []) dX12_isRows_60 zi_X12_370 rfl rfl zs_0 rfl rfl (Nat.le_of_ble_eq_true rfl) (by decide) (fun _ _ hx => hx) h15 ?_
        intro r19 M17 h18
        refine z_if_ne (tgt := 70) dX12_isRows_63 (by decide) (fun g20 => ?_) (fun g20 => ?_)
        · have h21 := h18.1 g20
          refine z_weak [true, false, true] (ls' := [.ref 0, zU, .int y2]) rfl rfl ?_
          exact h21
        · have h22 := h18.2 g20
          refine z_iconst (v := (1 : Int32)) dX12_isRows_66 rfl ?_
          refine z_goto (tgt := 71) dX12_isRows_67 (by decide) ?_
          refine z_weak [true, false, true] (ls' := [.ref 0, zU, .int y2]) rfl rfl ?_
          exact h22
theorem t_X12_isRows_78 {E : zEv} {D : Nat} {post : Int32 → zM → Prop} {px : String → zM → Prop} {M : zM}   {y1 : Int32} (h : (y1 = 0 ∨ y1 = 1) ∧ post y1 M) : w_X12_isRows_78 E D post px y1 M := by
  show Z E jX12_isRows (D + 1) 0 (zQi post px) 78 0 [zU, .int y1, zU] [] M
  refine z_iload_n dX12_isRows_78 rfl ?_
  obtain ⟨g2, h1⟩ := h
  exact z_iret dX12_isRows_79 rfl (zbool g2) (by decide) h1
theorem t_X12_isRows_70 {E : zEv} {D : Nat} {post : Int32 → zM → Prop} {px : String → zM → Prop} {M : zM}   {y2 : Int32} (h : w_X12_isRows_71 E D post px y2 (0 : Int32) M) : w_X12_isRows_70 E D post px y2 M := by
  show Z E jX12_isRows (D + 1) 0 (zQi post px) 70 0 [.ref 0, zU, .int y2] [] M
  refine z_iconst (v := (0 : Int32)) dX12_isRows_70 rfl ?_
  exact h
theorem t_X12_isRows_71 {E : zEv} {D : Nat} {post : Int32 → zM → Prop} {px : String → zM → Prop} {M : zM}   {y2 : Int32} {s0 : Int32} (h : w_X12_isRows_26 E D post px s0 (y2 + (3 : Int32)) M) : w_X12_isRows_71 E D post px y2 s0 M := by
  show Z E jX12_isRows (D + 1) 0 (zQi post px) 71 0 [.ref 0, zU, .int y2] [.int s0] M
  refine z_istore_n dX12_isRows_71 (by decide) (ls' := [.ref 0, .int s0, .int y2]) rfl ?_
  refine z_iinc dX12_isRows_72 rfl (by decide) (ls' := [.ref 0, .int s0, .int (y2 + (3 : Int32))]) rfl ?_
  refine z_goto (tgt := 26) dX12_isRows_75 (by decide) ?_
  exact h
def w_X12_fitsRows_4 (E : zEv) (D : Nat) (post : Int32 → zM → Prop) (px : String → zM → Prop)  (y1 : Int32) (y2 : Int32) (y3 : Int32) (M : zM) : Prop := Z E jX12_fitsRows (D + 1) 0 (zQi post px) 4 0 [.ref 0, .int y1, .int y2, .int y3] [] M
def w_X12_fitsRows_58 (E : zEv) (D : Nat) (post : Int32 → zM → Prop) (px : String → zM → Prop)  (y1 : Int32) (y3 : Int32) (M : zM) : Prop := Z E jX12_fitsRows (D + 1) 0 (zQi post px) 58 0 [.ref 0, .int y1, zU, .int y3] [] M
def w_X12_fitsRows_59 (E : zEv) (D : Nat) (post : Int32 → zM → Prop) (px : String → zM → Prop)  (y1 : Int32) (y3 : Int32) (s0 : Int32) (M : zM) : Prop := Z E jX12_fitsRows (D + 1) 0 (zQi post px) 59 0 [.ref 0, .int y1, zU, .int y3] [.int s0] M
theorem e_X12_fitsRows {E : zEv} {D : Nat} {post : Int32 → zM → Prop} {px : String → zM → Prop} {M : zM} {x1 : Int32}  (h : w_X12_fitsRows_4 E D post px x1 (1 : Int32) (0 : Int32) M) : zCi E jX12_fitsRows (D + 1) 0 [.ref 0, .int x1] M post px := by
  refine z_meth (by decide) (Nat.le_of_ble_eq_true rfl) ?_
  show Z E jX12_fitsRows (D + 1) 0 (zQi post px) 0 0 [.ref 0, .int x1, zU, zU] [] M
  refine z_iconst (v := (1 : Int32)) dX12_fitsRows_0 rfl ?_
  refine z_istore_n dX12_fitsRows_1 (by decide) (ls' := [.ref 0, .int x1, .int (1 : Int32), zU]) rfl ?_
  refine z_iconst (v := (0 : Int32)) dX12_fitsRows_2 rfl ?_
  refine z_istore_n dX12_fitsRows_3 (by decide) (ls' := [.ref 0, .int x1, .int (1 : Int32), .int (0 : Int32)]) rfl ?_
  exact h
theorem t_X12_fitsRows_4 {E : zEv} {D : Nat} {post : Int32 → zM → Prop} {px : String → zM → Prop} {M : zM}   {y1 : Int32} {y2 : Int32} {y3 : Int32} (h : (((M.1 0 11) ≤ y3 → (y2 = 0 ∨ y2 = 1) ∧ post y2 M) ∧ (¬ (M.1 0 11) ≤ y3 → ((y2 = 0 → w_X12_fitsRows_58 E D post px y1 y3 M) ∧ (¬ y2 = 0 → vp_in y3 400 ∧ vp_in (y3 + (1 : Int32)) 400 ∧ zCi E jX12_risenAt D 0 [.int (M.1 6 (y3).toNatClampNeg), .int y1, .int (M.1 6 ((y3 + (1 : Int32))).toNatClampNeg)] M (fun r15 M13 => vp_in r15 2560 ∧ vp_in (y3 + (2 : Int32)) 400 ∧ ((¬ (M13.1 11 (r15).toNatClampNeg) = ((M13.1 6 ((y3 + (2 : Int32))).toNatClampNeg) &&& (255 : Int32)) → w_X12_fitsRows_58 E D post px y1 y3 M13) ∧ ((M13.1 11 (r15).toNatClampNeg) = ((M13.1 6 ((y3 + (2 : Int32))).toNatClampNeg) &&& (255 : Int32)) → w_X12_fitsRows_59 E D post px y1 y3 (1 : Int32) M13))) px))))) : w_X12_fitsRows_4 E D post px y1 y2 y3 M := by
  show Z E jX12_fitsRows (D + 1) 0 (zQi post px) 4 0 [.ref 0, .int y1, .int y2, .int y3] [] M
  refine z_iload_n dX12_fitsRows_4 rfl ?_
  refine z_aload_n dX12_fitsRows_5 rfl ?_
  refine z_getI dX12_fitsRows_6 zg_X12_112 zs_0 rfl ?_
  refine z_icmp_ge (tgt := 66) dX12_fitsRows_9 (by decide) (fun g1 => ?_) (fun g1 => ?_)
  · have h2 := h.1 g1
    refine z_iload_n dX12_fitsRows_66 rfl ?_
    obtain ⟨g5, h4⟩ := h2
    exact z_iret dX12_fitsRows_67 rfl (zbool g5) (by decide) h4
  · have h3 := h.2 g1
    refine z_iload_n dX12_fitsRows_12 rfl ?_
    refine z_if_eq (tgt := 58) dX12_fitsRows_13 (by decide) (fun g6 => ?_) (fun g6 => ?_)
    · have h7 := h3.1 g6
      refine z_weak [true, true, false, true] (ls' := [.ref 0, .int y1, zU, .int y3]) rfl rfl ?_
      exact h7
    · have h8 := h3.2 g6
      refine z_aload_n dX12_fitsRows_16 rfl ?_
      refine z_getR dX12_fitsRows_17 zg_X12_48 zs_0 rfl ?_
      refine z_aload_n dX12_fitsRows_20 rfl ?_
      refine z_getR dX12_fitsRows_21 zg_X12_29 zs_0 rfl ?_
      refine z_iload_n dX12_fitsRows_24 rfl ?_
      obtain ⟨g10, h9⟩ := h8
      refine z_bald dX12_fitsRows_25 zs_6 g10 ?_
      refine z_iload_n dX12_fitsRows_26 rfl ?_
      refine z_aload_n dX12_fitsRows_27 rfl ?_
      refine z_getR dX12_fitsRows_28 zg_X12_29 zs_0 rfl ?_
      refine z_iload_n dX12_fitsRows_31 rfl ?_
      refine z_iconst (v := (1 : Int32)) dX12_fitsRows_32 rfl ?_
      refine z_iadd dX12_fitsRows_33 ?_
      obtain ⟨g12, h11⟩ := h9
      refine z_bald dX12_fitsRows_34 zs_6 g12 ?_
      refine z_callSi (As := [.int (M.1 6 (y3).toNatClampNeg), .int y1, .int (M.1 6 ((y3 + (1 : Int32))).toNatClampNeg)]) (st := [.ref 11]) dX12_fitsRows_35 zi_X12_418 rfl rfl (Nat.le_of_ble_eq_true rfl) (by decide) (fun _ _ hx => hx) h11 ?_
      intro r15 M13 h14
      obtain ⟨g17, h16⟩ := h14
      refine z_iald dX12_fitsRows_38 zs_11 g17 ?_
      refine z_aload_n dX12_fitsRows_39 rfl ?_
      refine z_getR dX12_fitsRows_40 zg_X12_29 zs_0 rfl ?_
      refine z_iload_n dX12_fitsRows_43 rfl ?_
      refine z_iconst (v := (2 : Int32)) dX12_fitsRows_44 rfl ?_
      refine z_iadd dX12_fitsRows_45 ?_
      obtain ⟨g19, h18⟩ := h16
      refine z_bald dX12_fitsRows_46 zs_6 g19 ?_
      refine z_sipush (v := (255 : Int32)) dX12_fitsRows_47 rfl ?_
      refine z_iand dX12_fitsRows_50 ?_
      refine z_icmp_ne (tgt := 58) dX12_fitsRows_51 (by decide) (fun g20 => ?_) (fun g20 => ?_)
      · have h21 := h18.1 g20
        refine z_weak [true, true, false, true] (ls' := [.ref 0, .int y1, zU, .int y3]) rfl rfl ?_
        exact h21
      · have h22 := h18.2 g20
        refine z_iconst (v := (1 : Int32)) dX12_fitsRows_54 rfl ?_
        refine z_goto (tgt := 59) dX12_fitsRows_55 (by decide) ?_
        refine z_weak [true, true, false, true] (ls' := [.ref 0, .int y1, zU, .int y3]) rfl rfl ?_
        exact h22
theorem t_X12_fitsRows_58 {E : zEv} {D : Nat} {post : Int32 → zM → Prop} {px : String → zM → Prop} {M : zM}   {y1 : Int32} {y3 : Int32} (h : w_X12_fitsRows_59 E D post px y1 y3 (0 : Int32) M) : w_X12_fitsRows_58 E D post px y1 y3 M := by
  show Z E jX12_fitsRows (D + 1) 0 (zQi post px) 58 0 [.ref 0, .int y1, zU, .int y3] [] M
  refine z_iconst (v := (0 : Int32)) dX12_fitsRows_58 rfl ?_
  exact h
theorem t_X12_fitsRows_59 {E : zEv} {D : Nat} {post : Int32 → zM → Prop} {px : String → zM → Prop} {M : zM}   {y1 : Int32} {y3 : Int32} {s0 : Int32} (h : w_X12_fitsRows_4 E D post px y1 s0 (y3 + (3 : Int32)) M) : w_X12_fitsRows_59 E D post px y1 y3 s0 M := by
  show Z E jX12_fitsRows (D + 1) 0 (zQi post px) 59 0 [.ref 0, .int y1, zU, .int y3] [.int s0] M
  refine z_istore_n dX12_fitsRows_59 (by decide) (ls' := [.ref 0, .int y1, .int s0, .int y3]) rfl ?_
  refine z_iinc dX12_fitsRows_60 rfl (by decide) (ls' := [.ref 0, .int y1, .int s0, .int (y3 + (3 : Int32))]) rfl ?_
  refine z_goto (tgt := 4) dX12_fitsRows_63 (by decide) ?_
  exact h
def w_X12_fits_17 (E : zEv) (D : Nat) (post : Int32 → zM → Prop) (px : String → zM → Prop)  (s0 : Int32) (M : zM) : Prop := Z E jX12_fits (D + 1) 0 (zQi post px) 17 0 [.ref 0, zU, zU] [.int s0, .ref 0] M
def w_X12_fits_34 (E : zEv) (D : Nat) (post : Int32 → zM → Prop) (px : String → zM → Prop)  (y1 : Int32) (y2 : Int32) (M : zM) : Prop := Z E jX12_fits (D + 1) 0 (zQi post px) 34 0 [.ref 0, .int y1, .int y2] [] M
def w_X12_fits_56 (E : zEv) (D : Nat) (post : Int32 → zM → Prop) (px : String → zM → Prop)  (y2 : Int32) (s0 : Int32) (s1 : Int32) (M : zM) : Prop := Z E jX12_fits (D + 1) 0 (zQi post px) 56 0 [.ref 0, zU, .int y2] [.int s0, .int s1] M
theorem e_X12_fits {E : zEv} {D : Nat} {post : Int32 → zM → Prop} {px : String → zM → Prop} {M : zM}   (h : zCv E jX12_uses D 0 [.ref 0] M (fun M1 => zCi E jX12_isRows D 0 [.ref 0] M1 (fun r5 M3 => ((¬ r5 = 0 → w_X12_fits_17 E D post px (0 : Int32) M3) ∧ (r5 = 0 → w_X12_fits_17 E D post px (1 : Int32) M3))) px) px) : zCi E jX12_fits (D + 1) 0 [.ref 0] M post px := by
  refine z_meth (by decide) (Nat.le_of_ble_eq_true rfl) ?_
  show Z E jX12_fits (D + 1) 0 (zQi post px) 0 0 [.ref 0, zU, zU] [] M
  refine z_aload_n dX12_fits_0 rfl ?_
  refine z_callVv (As := []) (st := []) dX12_fits_1 zi_X12_271 rfl rfl zs_0 rfl rfl (Nat.le_of_ble_eq_true rfl) (by decide) (fun _ _ hx => hx) h ?_
  intro M1 h2
  refine z_aload_n dX12_fits_4 rfl ?_
  refine z_aload_n dX12_fits_5 rfl ?_
  refine z_callVi (As := []) (st := [.ref 0]) dX12_fits_6 zi_X12_421 rfl rfl zs_0 rfl rfl (Nat.le_of_ble_eq_true rfl) (by decide) (fun _ _ hx => hx) h2 ?_
  intro r5 M3 h4
  refine z_if_ne (tgt := 16) dX12_fits_9 (by decide) (fun g6 => ?_) (fun g6 => ?_)
  · have h7 := h4.1 g6
    refine z_iconst (v := (0 : Int32)) dX12_fits_16 rfl ?_
    exact h7
  · have h8 := h4.2 g6
    refine z_iconst (v := (1 : Int32)) dX12_fits_12 rfl ?_
    refine z_goto (tgt := 17) dX12_fits_13 (by decide) ?_
    exact h8
theorem t_X12_fits_17 {E : zEv} {D : Nat} {post : Int32 → zM → Prop} {px : String → zM → Prop} {M : zM}   {s0 : Int32} (h : zCi E jX12_throwsIf D 0 [.ref 0, .int s0, .int (1 : Int32)] M (fun r3 M1 => ((r3 = 0 → zCv E jX12_laysWorlds D 0 [.ref 0] M1 (fun M7 => w_X12_fits_34 E D post px (0 : Int32) (0 : Int32) M7) px) ∧ (¬ r3 = 0 → post (0 : Int32) M1))) px) : w_X12_fits_17 E D post px s0 M := by
  show Z E jX12_fits (D + 1) 0 (zQi post px) 17 0 [.ref 0, zU, zU] [.int s0, .ref 0] M
  refine z_iconst (v := (1 : Int32)) dX12_fits_17 rfl ?_
  refine z_callVi (As := [.int s0, .int (1 : Int32)]) (st := []) dX12_fits_18 zi_X12_282 rfl rfl zs_0 rfl rfl (Nat.le_of_ble_eq_true rfl) (by decide) (fun _ _ hx => hx) h ?_
  intro r3 M1 h2
  refine z_if_eq (tgt := 26) dX12_fits_21 (by decide) (fun g4 => ?_) (fun g4 => ?_)
  · have h5 := h2.1 g4
    refine z_aload_n dX12_fits_26 rfl ?_
    refine z_callVv (As := []) (st := []) dX12_fits_27 zi_X12_424 rfl rfl zs_0 rfl rfl (Nat.le_of_ble_eq_true rfl) (by decide) (fun _ _ hx => hx) h5 ?_
    intro M7 h8
    refine z_iconst (v := (0 : Int32)) dX12_fits_30 rfl ?_
    refine z_istore_n dX12_fits_31 (by decide) (ls' := [.ref 0, .int (0 : Int32), zU]) rfl ?_
    refine z_iconst (v := (0 : Int32)) dX12_fits_32 rfl ?_
    refine z_istore_n dX12_fits_33 (by decide) (ls' := [.ref 0, .int (0 : Int32), .int (0 : Int32)]) rfl ?_
    exact h8
  · have h6 := h2.2 g4
    refine z_iconst (v := (0 : Int32)) dX12_fits_24 rfl ?_
    exact z_iret dX12_fits_25 rfl rfl (by decide) h6
theorem t_X12_fits_34 {E : zEv} {D : Nat} {post : Int32 → zM → Prop} {px : String → zM → Prop} {M : zM}   {y1 : Int32} {y2 : Int32} (h : zCi E jX12_allThings D 0 [.ref 0] M (fun r3 M1 => ((r3 < y2 → post y1 M1) ∧ (¬ r3 < y2 → zCi E jX12_fitsRows D 0 [.ref 0, .int y2] M1 (fun r9 M7 => ((r9 = 0 → w_X12_fits_56 E D post px y2 (0 : Int32) y1 M7) ∧ (¬ r9 = 0 → w_X12_fits_56 E D post px y2 (1 : Int32) y1 M7))) px))) px) : w_X12_fits_34 E D post px y1 y2 M := by
  show Z E jX12_fits (D + 1) 0 (zQi post px) 34 0 [.ref 0, .int y1, .int y2] [] M
  refine z_iload_n dX12_fits_34 rfl ?_
  refine z_aload_n dX12_fits_35 rfl ?_
  refine z_callVi (As := []) (st := [.int y2]) dX12_fits_36 zi_X12_403 rfl rfl zs_0 rfl rfl (Nat.le_of_ble_eq_true rfl) (by decide) (fun _ _ hx => hx) h ?_
  intro r3 M1 h2
  refine z_icmp_gt (tgt := 64) dX12_fits_39 (by decide) (fun g4 => ?_) (fun g4 => ?_)
  · have h5 := h2.1 g4
    refine z_iload_n dX12_fits_64 rfl ?_
    exact z_iret dX12_fits_65 rfl rfl (by decide) h5
  · have h6 := h2.2 g4
    refine z_iload_n dX12_fits_42 rfl ?_
    refine z_aload_n dX12_fits_43 rfl ?_
    refine z_iload_n dX12_fits_44 rfl ?_
    refine z_callVi (As := [.int y2]) (st := [.int y1]) dX12_fits_45 zi_X12_427 rfl rfl zs_0 rfl rfl (Nat.le_of_ble_eq_true rfl) (by decide) (fun _ _ hx => hx) h6 ?_
    intro r9 M7 h8
    refine z_if_eq (tgt := 55) dX12_fits_48 (by decide) (fun g10 => ?_) (fun g10 => ?_)
    · have h11 := h8.1 g10
      refine z_iconst (v := (0 : Int32)) dX12_fits_55 rfl ?_
      refine z_weak [true, false, true] (ls' := [.ref 0, zU, .int y2]) rfl rfl ?_
      exact h11
    · have h12 := h8.2 g10
      refine z_iconst (v := (1 : Int32)) dX12_fits_51 rfl ?_
      refine z_goto (tgt := 56) dX12_fits_52 (by decide) ?_
      refine z_weak [true, false, true] (ls' := [.ref 0, zU, .int y2]) rfl rfl ?_
      exact h12
theorem t_X12_fits_56 {E : zEv} {D : Nat} {post : Int32 → zM → Prop} {px : String → zM → Prop} {M : zM}   {y2 : Int32} {s0 : Int32} {s1 : Int32} (h : w_X12_fits_34 E D post px (s1 + s0) (y2 + (1 : Int32)) M) : w_X12_fits_56 E D post px y2 s0 s1 M := by
  show Z E jX12_fits (D + 1) 0 (zQi post px) 56 0 [.ref 0, zU, .int y2] [.int s0, .int s1] M
  refine z_iadd dX12_fits_56 ?_
  refine z_istore_n dX12_fits_57 (by decide) (ls' := [.ref 0, .int (s1 + s0), .int y2]) rfl ?_
  refine z_iinc dX12_fits_58 rfl (by decide) (ls' := [.ref 0, .int (s1 + s0), .int (y2 + (1 : Int32))]) rfl ?_
  refine z_goto (tgt := 34) dX12_fits_61 (by decide) ?_
  exact h
def w_X12_sure_17 (E : zEv) (D : Nat) (post : Int32 → zM → Prop) (px : String → zM → Prop)  (s0 : Int32) (M : zM) : Prop := Z E jX12_sure (D + 1) 0 (zQi post px) 17 0 [.ref 0, zU, zU, zU] [.int s0, .ref 0] M
def w_X12_sure_39 (E : zEv) (D : Nat) (post : Int32 → zM → Prop) (px : String → zM → Prop)  (y1 : Int32) (y2 : Int32) (y3 : Int32) (M : zM) : Prop := Z E jX12_sure (D + 1) 0 (zQi post px) 39 0 [.ref 0, .int y1, .int y2, .int y3] [] M
def w_X12_sure_79 (E : zEv) (D : Nat) (post : Int32 → zM → Prop) (px : String → zM → Prop)  (s0 : Int32) (M : zM) : Prop := Z E jX12_sure (D + 1) 0 (zQi post px) 79 0 [zU, zU, zU, zU] [.int s0] M
def w_X12_sure_64 (E : zEv) (D : Nat) (post : Int32 → zM → Prop) (px : String → zM → Prop)  (y1 : Int32) (y2 : Int32) (y3 : Int32) (M : zM) : Prop := Z E jX12_sure (D + 1) 0 (zQi post px) 64 0 [.ref 0, .int y1, .int y2, .int y3] [] M
theorem e_X12_sure {E : zEv} {D : Nat} {post : Int32 → zM → Prop} {px : String → zM → Prop} {M : zM}   (h : zCv E jX12_uses D 0 [.ref 0] M (fun M1 => zCi E jX12_isRows D 0 [.ref 0] M1 (fun r5 M3 => ((¬ r5 = 0 → w_X12_sure_17 E D post px (0 : Int32) M3) ∧ (r5 = 0 → w_X12_sure_17 E D post px (1 : Int32) M3))) px) px) : zCi E jX12_sure (D + 1) 0 [.ref 0] M post px := by
  refine z_meth (by decide) (Nat.le_of_ble_eq_true rfl) ?_
  show Z E jX12_sure (D + 1) 0 (zQi post px) 0 0 [.ref 0, zU, zU, zU] [] M
  refine z_aload_n dX12_sure_0 rfl ?_
  refine z_callVv (As := []) (st := []) dX12_sure_1 zi_X12_271 rfl rfl zs_0 rfl rfl (Nat.le_of_ble_eq_true rfl) (by decide) (fun _ _ hx => hx) h ?_
  intro M1 h2
  refine z_aload_n dX12_sure_4 rfl ?_
  refine z_aload_n dX12_sure_5 rfl ?_
  refine z_callVi (As := []) (st := [.ref 0]) dX12_sure_6 zi_X12_421 rfl rfl zs_0 rfl rfl (Nat.le_of_ble_eq_true rfl) (by decide) (fun _ _ hx => hx) h2 ?_
  intro r5 M3 h4
  refine z_if_ne (tgt := 16) dX12_sure_9 (by decide) (fun g6 => ?_) (fun g6 => ?_)
  · have h7 := h4.1 g6
    refine z_iconst (v := (0 : Int32)) dX12_sure_16 rfl ?_
    exact h7
  · have h8 := h4.2 g6
    refine z_iconst (v := (1 : Int32)) dX12_sure_12 rfl ?_
    refine z_goto (tgt := 17) dX12_sure_13 (by decide) ?_
    exact h8
theorem t_X12_sure_17 {E : zEv} {D : Nat} {post : Int32 → zM → Prop} {px : String → zM → Prop} {M : zM}   {s0 : Int32} (h : zCi E jX12_throwsIf D 0 [.ref 0, .int s0, .int (1 : Int32)] M (fun r3 M1 => ((r3 = 0 → zCv E jX12_laysWorlds D 0 [.ref 0] M1 (fun M7 => zCi E jX12_allThings D 0 [.ref 0] M7 (fun r11 M9 => w_X12_sure_39 E D post px r11 (0 : Int32) (0 : Int32) M9) px) px) ∧ (¬ r3 = 0 → post (0 : Int32) M1))) px) : w_X12_sure_17 E D post px s0 M := by
  show Z E jX12_sure (D + 1) 0 (zQi post px) 17 0 [.ref 0, zU, zU, zU] [.int s0, .ref 0] M
  refine z_iconst (v := (1 : Int32)) dX12_sure_17 rfl ?_
  refine z_callVi (As := [.int s0, .int (1 : Int32)]) (st := []) dX12_sure_18 zi_X12_282 rfl rfl zs_0 rfl rfl (Nat.le_of_ble_eq_true rfl) (by decide) (fun _ _ hx => hx) h ?_
  intro r3 M1 h2
  refine z_if_eq (tgt := 26) dX12_sure_21 (by decide) (fun g4 => ?_) (fun g4 => ?_)
  · have h5 := h2.1 g4
    refine z_aload_n dX12_sure_26 rfl ?_
    refine z_callVv (As := []) (st := []) dX12_sure_27 zi_X12_424 rfl rfl zs_0 rfl rfl (Nat.le_of_ble_eq_true rfl) (by decide) (fun _ _ hx => hx) h5 ?_
    intro M7 h8
    refine z_aload_n dX12_sure_30 rfl ?_
    refine z_callVi (As := []) (st := []) dX12_sure_31 zi_X12_403 rfl rfl zs_0 rfl rfl (Nat.le_of_ble_eq_true rfl) (by decide) (fun _ _ hx => hx) h8 ?_
    intro r11 M9 h10
    refine z_istore_n dX12_sure_34 (by decide) (ls' := [.ref 0, .int r11, zU, zU]) rfl ?_
    refine z_iconst (v := (0 : Int32)) dX12_sure_35 rfl ?_
    refine z_istore_n dX12_sure_36 (by decide) (ls' := [.ref 0, .int r11, .int (0 : Int32), zU]) rfl ?_
    refine z_iconst (v := (0 : Int32)) dX12_sure_37 rfl ?_
    refine z_istore_n dX12_sure_38 (by decide) (ls' := [.ref 0, .int r11, .int (0 : Int32), .int (0 : Int32)]) rfl ?_
    exact h10
  · have h6 := h2.2 g4
    refine z_iconst (v := (0 : Int32)) dX12_sure_24 rfl ?_
    exact z_iret dX12_sure_25 rfl rfl (by decide) h6
theorem t_X12_sure_39 {E : zEv} {D : Nat} {post : Int32 → zM → Prop} {px : String → zM → Prop} {M : zM}   {y1 : Int32} {y2 : Int32} {y3 : Int32} (h : zCi E jX12_allThings D 0 [.ref 0] M (fun r3 M1 => ((r3 < y3 → ((y2 = 0 → w_X12_sure_79 E D post px (0 : Int32) M1) ∧ (¬ y2 = 0 → w_X12_sure_79 E D post px y1 M1))) ∧ (¬ r3 < y3 → zCi E jX12_fitsRows D 0 [.ref 0, .int y3] M1 (fun r12 M10 => ((¬ r12 = 0 → w_X12_sure_64 E D post px (y1 &&& y3) (1 : Int32) y3 M10) ∧ (r12 = 0 → w_X12_sure_64 E D post px y1 y2 y3 M10))) px))) px) : w_X12_sure_39 E D post px y1 y2 y3 M := by
  show Z E jX12_sure (D + 1) 0 (zQi post px) 39 0 [.ref 0, .int y1, .int y2, .int y3] [] M
  refine z_iload_n dX12_sure_39 rfl ?_
  refine z_aload_n dX12_sure_40 rfl ?_
  refine z_callVi (As := []) (st := [.int y3]) dX12_sure_41 zi_X12_403 rfl rfl zs_0 rfl rfl (Nat.le_of_ble_eq_true rfl) (by decide) (fun _ _ hx => hx) h ?_
  intro r3 M1 h2
  refine z_icmp_gt (tgt := 70) dX12_sure_44 (by decide) (fun g4 => ?_) (fun g4 => ?_)
  · have h5 := h2.1 g4
    refine z_iload_n dX12_sure_70 rfl ?_
    refine z_if_eq (tgt := 78) dX12_sure_71 (by decide) (fun g7 => ?_) (fun g7 => ?_)
    · have h8 := h5.1 g7
      refine z_iconst (v := (0 : Int32)) dX12_sure_78 rfl ?_
      refine z_weak [false, false, false, false] (ls' := [zU, zU, zU, zU]) rfl rfl ?_
      exact h8
    · have h9 := h5.2 g7
      refine z_iload_n dX12_sure_74 rfl ?_
      refine z_goto (tgt := 79) dX12_sure_75 (by decide) ?_
      refine z_weak [false, false, false, false] (ls' := [zU, zU, zU, zU]) rfl rfl ?_
      exact h9
  · have h6 := h2.2 g4
    refine z_aload_n dX12_sure_47 rfl ?_
    refine z_iload_n dX12_sure_48 rfl ?_
    refine z_callVi (As := [.int y3]) (st := []) dX12_sure_49 zi_X12_427 rfl rfl zs_0 rfl rfl (Nat.le_of_ble_eq_true rfl) (by decide) (fun _ _ hx => hx) h6 ?_
    intro r12 M10 h11
    refine z_if_ne (tgt := 58) dX12_sure_52 (by decide) (fun g13 => ?_) (fun g13 => ?_)
    · have h14 := h11.1 g13
      refine z_iconst (v := (1 : Int32)) dX12_sure_58 rfl ?_
      refine z_istore_n dX12_sure_59 (by decide) (ls' := [.ref 0, .int y1, .int (1 : Int32), .int y3]) rfl ?_
      refine z_iload_n dX12_sure_60 rfl ?_
      refine z_iload_n dX12_sure_61 rfl ?_
      refine z_iand dX12_sure_62 ?_
      refine z_istore_n dX12_sure_63 (by decide) (ls' := [.ref 0, .int (y1 &&& y3), .int (1 : Int32), .int y3]) rfl ?_
      exact h14
    · have h15 := h11.2 g13
      refine z_goto (tgt := 64) dX12_sure_55 (by decide) ?_
      exact h15
theorem t_X12_sure_79 {E : zEv} {D : Nat} {post : Int32 → zM → Prop} {px : String → zM → Prop} {M : zM}   {s0 : Int32} (h : post s0 M) : w_X12_sure_79 E D post px s0 M := by
  show Z E jX12_sure (D + 1) 0 (zQi post px) 79 0 [zU, zU, zU, zU] [.int s0] M
  exact z_iret dX12_sure_79 rfl rfl (by decide) h
theorem t_X12_sure_64 {E : zEv} {D : Nat} {post : Int32 → zM → Prop} {px : String → zM → Prop} {M : zM}   {y1 : Int32} {y2 : Int32} {y3 : Int32} (h : w_X12_sure_39 E D post px y1 y2 (y3 + (1 : Int32)) M) : w_X12_sure_64 E D post px y1 y2 y3 M := by
  show Z E jX12_sure (D + 1) 0 (zQi post px) 64 0 [.ref 0, .int y1, .int y2, .int y3] [] M
  refine z_iinc dX12_sure_64 rfl (by decide) (ls' := [.ref 0, .int y1, .int y2, .int (y3 + (1 : Int32))]) rfl ?_
  refine z_goto (tgt := 39) dX12_sure_67 (by decide) ?_
  exact h
def w_X12_never_17 (E : zEv) (D : Nat) (post : Int32 → zM → Prop) (px : String → zM → Prop)  (s0 : Int32) (M : zM) : Prop := Z E jX12_never (D + 1) 0 (zQi post px) 17 0 [.ref 0, zU, zU] [.int s0, .ref 0] M
def w_X12_never_37 (E : zEv) (D : Nat) (post : Int32 → zM → Prop) (px : String → zM → Prop)  (y1 : Int32) (y2 : Int32) (M : zM) : Prop := Z E jX12_never (D + 1) 0 (zQi post px) 37 0 [.ref 0, .int y1, .int y2] [] M
def w_X12_never_62 (E : zEv) (D : Nat) (post : Int32 → zM → Prop) (px : String → zM → Prop)  (y2 : Int32) (s0 : Int32) (M : zM) : Prop := Z E jX12_never (D + 1) 0 (zQi post px) 62 0 [.ref 0, zU, .int y2] [.int s0] M
theorem e_X12_never {E : zEv} {D : Nat} {post : Int32 → zM → Prop} {px : String → zM → Prop} {M : zM}   (h : zCv E jX12_uses D 0 [.ref 0] M (fun M1 => zCi E jX12_isRows D 0 [.ref 0] M1 (fun r5 M3 => ((¬ r5 = 0 → w_X12_never_17 E D post px (0 : Int32) M3) ∧ (r5 = 0 → w_X12_never_17 E D post px (1 : Int32) M3))) px) px) : zCi E jX12_never (D + 1) 0 [.ref 0] M post px := by
  refine z_meth (by decide) (Nat.le_of_ble_eq_true rfl) ?_
  show Z E jX12_never (D + 1) 0 (zQi post px) 0 0 [.ref 0, zU, zU] [] M
  refine z_aload_n dX12_never_0 rfl ?_
  refine z_callVv (As := []) (st := []) dX12_never_1 zi_X12_271 rfl rfl zs_0 rfl rfl (Nat.le_of_ble_eq_true rfl) (by decide) (fun _ _ hx => hx) h ?_
  intro M1 h2
  refine z_aload_n dX12_never_4 rfl ?_
  refine z_aload_n dX12_never_5 rfl ?_
  refine z_callVi (As := []) (st := [.ref 0]) dX12_never_6 zi_X12_421 rfl rfl zs_0 rfl rfl (Nat.le_of_ble_eq_true rfl) (by decide) (fun _ _ hx => hx) h2 ?_
  intro r5 M3 h4
  refine z_if_ne (tgt := 16) dX12_never_9 (by decide) (fun g6 => ?_) (fun g6 => ?_)
  · have h7 := h4.1 g6
    refine z_iconst (v := (0 : Int32)) dX12_never_16 rfl ?_
    exact h7
  · have h8 := h4.2 g6
    refine z_iconst (v := (1 : Int32)) dX12_never_12 rfl ?_
    refine z_goto (tgt := 17) dX12_never_13 (by decide) ?_
    exact h8
theorem t_X12_never_17 {E : zEv} {D : Nat} {post : Int32 → zM → Prop} {px : String → zM → Prop} {M : zM}   {s0 : Int32} (h : zCi E jX12_throwsIf D 0 [.ref 0, .int s0, .int (1 : Int32)] M (fun r3 M1 => ((r3 = 0 → zCv E jX12_laysWorlds D 0 [.ref 0] M1 (fun M7 => zCi E jX12_allThings D 0 [.ref 0] M7 (fun r11 M9 => w_X12_never_37 E D post px r11 (0 : Int32) M9) px) px) ∧ (¬ r3 = 0 → post (0 : Int32) M1))) px) : w_X12_never_17 E D post px s0 M := by
  show Z E jX12_never (D + 1) 0 (zQi post px) 17 0 [.ref 0, zU, zU] [.int s0, .ref 0] M
  refine z_iconst (v := (1 : Int32)) dX12_never_17 rfl ?_
  refine z_callVi (As := [.int s0, .int (1 : Int32)]) (st := []) dX12_never_18 zi_X12_282 rfl rfl zs_0 rfl rfl (Nat.le_of_ble_eq_true rfl) (by decide) (fun _ _ hx => hx) h ?_
  intro r3 M1 h2
  refine z_if_eq (tgt := 26) dX12_never_21 (by decide) (fun g4 => ?_) (fun g4 => ?_)
  · have h5 := h2.1 g4
    refine z_aload_n dX12_never_26 rfl ?_
    refine z_callVv (As := []) (st := []) dX12_never_27 zi_X12_424 rfl rfl zs_0 rfl rfl (Nat.le_of_ble_eq_true rfl) (by decide) (fun _ _ hx => hx) h5 ?_
    intro M7 h8
    refine z_aload_n dX12_never_30 rfl ?_
    refine z_callVi (As := []) (st := []) dX12_never_31 zi_X12_403 rfl rfl zs_0 rfl rfl (Nat.le_of_ble_eq_true rfl) (by decide) (fun _ _ hx => hx) h8 ?_
    intro r11 M9 h10
    refine z_istore_n dX12_never_34 (by decide) (ls' := [.ref 0, .int r11, zU]) rfl ?_
    refine z_iconst (v := (0 : Int32)) dX12_never_35 rfl ?_
    refine z_istore_n dX12_never_36 (by decide) (ls' := [.ref 0, .int r11, .int (0 : Int32)]) rfl ?_
    exact h10
  · have h6 := h2.2 g4
    refine z_iconst (v := (0 : Int32)) dX12_never_24 rfl ?_
    exact z_iret dX12_never_25 rfl rfl (by decide) h6
theorem t_X12_never_37 {E : zEv} {D : Nat} {post : Int32 → zM → Prop} {px : String → zM → Prop} {M : zM}   {y1 : Int32} {y2 : Int32} (h : zCi E jX12_allThings D 0 [.ref 0] M (fun r3 M1 => ((r3 < y2 → post y1 M1) ∧ (¬ r3 < y2 → zCi E jX12_fitsRows D 0 [.ref 0, .int y2] M1 (fun r9 M7 => ((r9 = 0 → w_X12_never_62 E D post px y2 y1 M7) ∧ (¬ r9 = 0 → w_X12_never_62 E D post px y2 (y1 &&& (y2 ^^^ (-1 : Int32))) M7))) px))) px) : w_X12_never_37 E D post px y1 y2 M := by
  show Z E jX12_never (D + 1) 0 (zQi post px) 37 0 [.ref 0, .int y1, .int y2] [] M
  refine z_iload_n dX12_never_37 rfl ?_
  refine z_aload_n dX12_never_38 rfl ?_
  refine z_callVi (As := []) (st := [.int y2]) dX12_never_39 zi_X12_403 rfl rfl zs_0 rfl rfl (Nat.le_of_ble_eq_true rfl) (by decide) (fun _ _ hx => hx) h ?_
  intro r3 M1 h2
  refine z_icmp_gt (tgt := 69) dX12_never_42 (by decide) (fun g4 => ?_) (fun g4 => ?_)
  · have h5 := h2.1 g4
    refine z_iload_n dX12_never_69 rfl ?_
    exact z_iret dX12_never_70 rfl rfl (by decide) h5
  · have h6 := h2.2 g4
    refine z_aload_n dX12_never_45 rfl ?_
    refine z_iload_n dX12_never_46 rfl ?_
    refine z_callVi (As := [.int y2]) (st := []) dX12_never_47 zi_X12_427 rfl rfl zs_0 rfl rfl (Nat.le_of_ble_eq_true rfl) (by decide) (fun _ _ hx => hx) h6 ?_
    intro r9 M7 h8
    refine z_if_eq (tgt := 61) dX12_never_50 (by decide) (fun g10 => ?_) (fun g10 => ?_)
    · have h11 := h8.1 g10
      refine z_iload_n dX12_never_61 rfl ?_
      refine z_weak [true, false, true] (ls' := [.ref 0, zU, .int y2]) rfl rfl ?_
      exact h11
    · have h12 := h8.2 g10
      refine z_iload_n dX12_never_53 rfl ?_
      refine z_iload_n dX12_never_54 rfl ?_
      refine z_iconst (v := (-1 : Int32)) dX12_never_55 rfl ?_
      refine z_ixor dX12_never_56 ?_
      refine z_iand dX12_never_57 ?_
      refine z_goto (tgt := 62) dX12_never_58 (by decide) ?_
      refine z_weak [true, false, true] (ls' := [.ref 0, zU, .int y2]) rfl rfl ?_
      exact h12
theorem t_X12_never_62 {E : zEv} {D : Nat} {post : Int32 → zM → Prop} {px : String → zM → Prop} {M : zM}   {y2 : Int32} {s0 : Int32} (h : w_X12_never_37 E D post px s0 (y2 + (1 : Int32)) M) : w_X12_never_62 E D post px y2 s0 M := by
  show Z E jX12_never (D + 1) 0 (zQi post px) 62 0 [.ref 0, zU, .int y2] [.int s0] M
  refine z_istore_n dX12_never_62 (by decide) (ls' := [.ref 0, .int s0, .int y2]) rfl ?_
  refine z_iinc dX12_never_63 rfl (by decide) (ls' := [.ref 0, .int s0, .int (y2 + (1 : Int32))]) rfl ?_
  refine z_goto (tgt := 37) dX12_never_66 (by decide) ?_
  exact h
def w_X12_partBy_4 (E : zEv) (D : Nat) (post : Int32 → zM → Prop) (px : String → zM → Prop)  (y1 : Int32) (y2 : Int32) (y3 : Int32) (M : zM) : Prop := Z E jX12_partBy (D + 1) 0 (zQi post px) 4 0 [.ref 0, .int y1, .int y2, .int y3, zU, zU] [] M
def w_X12_partBy_30 (E : zEv) (D : Nat) (post : Int32 → zM → Prop) (px : String → zM → Prop)  (y1 : Int32) (y2 : Int32) (y3 : Int32) (y4 : Int32) (y5 : Int32) (M : zM) : Prop := Z E jX12_partBy (D + 1) 0 (zQi post px) 30 0 [.ref 0, .int y1, .int y2, .int y3, .int y4, .int y5] [] M
def w_X12_partBy_83 (E : zEv) (D : Nat) (post : Int32 → zM → Prop) (px : String → zM → Prop)  (y1 : Int32) (y2 : Int32) (y3 : Int32) (M : zM) : Prop := Z E jX12_partBy (D + 1) 0 (zQi post px) 83 0 [.ref 0, .int y1, .int y2, .int y3, zU, zU] [] M
def w_X12_partBy_66 (E : zEv) (D : Nat) (post : Int32 → zM → Prop) (px : String → zM → Prop)  (y1 : Int32) (y2 : Int32) (y3 : Int32) (y5 : Int32) (s0 : Int32) (M : zM) : Prop := Z E jX12_partBy (D + 1) 0 (zQi post px) 66 0 [.ref 0, .int y1, .int y2, .int y3, zU, .int y5] [.int s0] M
def w_X12_partBy_67 (E : zEv) (D : Nat) (post : Int32 → zM → Prop) (px : String → zM → Prop)  (y1 : Int32) (y2 : Int32) (y3 : Int32) (y5 : Int32) (s0 : Int32) (s1 : Int32) (M : zM) : Prop := Z E jX12_partBy (D + 1) 0 (zQi post px) 67 0 [.ref 0, .int y1, .int y2, .int y3, zU, .int y5] [.int s0, .int s1] M
theorem e_X12_partBy {E : zEv} {D : Nat} {post : Int32 → zM → Prop} {px : String → zM → Prop} {M : zM} {x1 : Int32}  (h : w_X12_partBy_4 E D post px x1 (0 : Int32) (0 : Int32) M) : zCi E jX12_partBy (D + 1) 0 [.ref 0, .int x1] M post px := by
  refine z_meth (by decide) (Nat.le_of_ble_eq_true rfl) ?_
  show Z E jX12_partBy (D + 1) 0 (zQi post px) 0 0 [.ref 0, .int x1, zU, zU, zU, zU] [] M
  refine z_iconst (v := (0 : Int32)) dX12_partBy_0 rfl ?_
  refine z_istore_n dX12_partBy_1 (by decide) (ls' := [.ref 0, .int x1, .int (0 : Int32), zU, zU, zU]) rfl ?_
  refine z_iconst (v := (0 : Int32)) dX12_partBy_2 rfl ?_
  refine z_istore_n dX12_partBy_3 (by decide) (ls' := [.ref 0, .int x1, .int (0 : Int32), .int (0 : Int32), zU, zU]) rfl ?_
  exact h
theorem t_X12_partBy_4 {E : zEv} {D : Nat} {post : Int32 → zM → Prop} {px : String → zM → Prop} {M : zM}   {y1 : Int32} {y2 : Int32} {y3 : Int32} (h : zCi E jX12_allThings D 0 [.ref 0] M (fun r3 M1 => ((r3 < y3 → post y2 M1) ∧ (¬ r3 < y3 → vp_in y3 64 ∧ ((¬ (M1.1 12 (y3).toNatClampNeg) = 0 → w_X12_partBy_30 E D post px y1 y2 y3 (0 : Int32) (0 : Int32) M1) ∧ ((M1.1 12 (y3).toNatClampNeg) = 0 → w_X12_partBy_83 E D post px y1 y2 y3 M1))))) px) : w_X12_partBy_4 E D post px y1 y2 y3 M := by
  show Z E jX12_partBy (D + 1) 0 (zQi post px) 4 0 [.ref 0, .int y1, .int y2, .int y3, zU, zU] [] M
  refine z_iload_n dX12_partBy_4 rfl ?_
  refine z_aload_n dX12_partBy_5 rfl ?_
  refine z_callVi (As := []) (st := [.int y3]) dX12_partBy_6 zi_X12_403 rfl rfl zs_0 rfl rfl (Nat.le_of_ble_eq_true rfl) (by decide) (fun _ _ hx => hx) h ?_
  intro r3 M1 h2
  refine z_icmp_gt (tgt := 89) dX12_partBy_9 (by decide) (fun g4 => ?_) (fun g4 => ?_)
  · have h5 := h2.1 g4
    refine z_iload_n dX12_partBy_89 rfl ?_
    exact z_iret dX12_partBy_90 rfl rfl (by decide) h5
  · have h6 := h2.2 g4
    refine z_aload_n dX12_partBy_12 rfl ?_
    refine z_getR dX12_partBy_13 zg_X12_51 zs_0 rfl ?_
    refine z_iload_n dX12_partBy_16 rfl ?_
    obtain ⟨g8, h7⟩ := h6
    refine z_zald dX12_partBy_17 zs_12 g8 ?_
    refine z_if_ne (tgt := 24) dX12_partBy_18 (by decide) (fun g9 => ?_) (fun g9 => ?_)
    · have h10 := h7.1 g9
      refine z_iconst (v := (0 : Int32)) dX12_partBy_24 rfl ?_
      refine z_istore dX12_partBy_25 (by decide) (ls' := [.ref 0, .int y1, .int y2, .int y3, .int (0 : Int32), zU]) rfl ?_
      refine z_iconst (v := (0 : Int32)) dX12_partBy_27 rfl ?_
      refine z_istore dX12_partBy_28 (by decide) (ls' := [.ref 0, .int y1, .int y2, .int y3, .int (0 : Int32), .int (0 : Int32)]) rfl ?_
      exact h10
    · have h11 := h7.2 g9
      refine z_goto (tgt := 83) dX12_partBy_21 (by decide) ?_
      exact h11
theorem t_X12_partBy_30 {E : zEv} {D : Nat} {post : Int32 → zM → Prop} {px : String → zM → Prop} {M : zM}   {y1 : Int32} {y2 : Int32} {y3 : Int32} {y4 : Int32} {y5 : Int32} (h : zCi E jX12_allThings D 0 [.ref 0] M (fun r3 M1 => ((r3 < y5 → w_X12_partBy_83 E D post px y1 (zmax y2 y4) y3 M1) ∧ (¬ r3 < y5 → vp_in y5 64 ∧ (((M1.1 12 (y5).toNatClampNeg) = 0 → w_X12_partBy_66 E D post px y1 y2 y3 y5 y4 M1) ∧ (¬ (M1.1 12 (y5).toNatClampNeg) = 0 → zCi E jX12_alikeBy D 0 [.ref 0, .int y1, .int y3, .int y5] M1 (fun r14 M12 => ((r14 = 0 → w_X12_partBy_66 E D post px y1 y2 y3 y5 y4 M12) ∧ (¬ r14 = 0 → w_X12_partBy_67 E D post px y1 y2 y3 y5 (1 : Int32) y4 M12))) px))))) px) : w_X12_partBy_30 E D post px y1 y2 y3 y4 y5 M := by
  show Z E jX12_partBy (D + 1) 0 (zQi post px) 30 0 [.ref 0, .int y1, .int y2, .int y3, .int y4, .int y5] [] M
  refine z_iload dX12_partBy_30 rfl ?_
  refine z_aload_n dX12_partBy_32 rfl ?_
  refine z_callVi (As := []) (st := [.int y5]) dX12_partBy_33 zi_X12_403 rfl rfl zs_0 rfl rfl (Nat.le_of_ble_eq_true rfl) (by decide) (fun _ _ hx => hx) h ?_
  intro r3 M1 h2
  refine z_icmp_gt (tgt := 76) dX12_partBy_36 (by decide) (fun g4 => ?_) (fun g4 => ?_)
  · have h5 := h2.1 g4
    refine z_iload_n dX12_partBy_76 rfl ?_
    refine z_iload dX12_partBy_77 rfl ?_
    refine z_max dX12_partBy_79 zm_X12_305 (Nat.le_of_ble_eq_true rfl) (by decide) ?_
    refine z_istore_n dX12_partBy_82 (by decide) (ls' := [.ref 0, .int y1, .int (zmax y2 y4), .int y3, .int y4, .int y5]) rfl ?_
    refine z_weak [true, true, true, true, false, false] (ls' := [.ref 0, .int y1, .int (zmax y2 y4), .int y3, zU, zU]) rfl rfl ?_
    exact h5
  · have h6 := h2.2 g4
    refine z_iload dX12_partBy_39 rfl ?_
    refine z_aload_n dX12_partBy_41 rfl ?_
    refine z_getR dX12_partBy_42 zg_X12_51 zs_0 rfl ?_
    refine z_iload dX12_partBy_45 rfl ?_
    obtain ⟨g8, h7⟩ := h6
    refine z_zald dX12_partBy_47 zs_12 g8 ?_
    refine z_if_eq (tgt := 66) dX12_partBy_48 (by decide) (fun g9 => ?_) (fun g9 => ?_)
    · have h10 := h7.1 g9
      refine z_weak [true, true, true, true, false, true] (ls' := [.ref 0, .int y1, .int y2, .int y3, zU, .int y5]) rfl rfl ?_
      exact h10
    · have h11 := h7.2 g9
      refine z_aload_n dX12_partBy_51 rfl ?_
      refine z_iload_n dX12_partBy_52 rfl ?_
      refine z_iload_n dX12_partBy_53 rfl ?_
      refine z_iload dX12_partBy_54 rfl ?_
      refine z_callVi (As := [.int y1, .int y3, .int y5]) (st := [.int y4]) dX12_partBy_56 zi_X12_430 rfl rfl zs_0 rfl rfl (Nat.le_of_ble_eq_true rfl) (by decide) (fun _ _ hx => hx) h11 ?_
      intro r14 M12 h13
      refine z_if_eq (tgt := 66) dX12_partBy_59 (by decide) (fun g15 => ?_) (fun g15 => ?_)
      · have h16 := h13.1 g15
        refine z_weak [true, true, true, true, false, true] (ls' := [.ref 0, .int y1, .int y2, .int y3, zU, .int y5]) rfl rfl ?_
        exact h16
      · have h17 := h13.2 g15
        refine z_iconst (v := (1 : Int32)) dX12_partBy_62 rfl ?_
        refine z_goto (tgt := 67) dX12_partBy_63 (by decide) ?_
        refine z_weak [true, true, true, true, false, true] (ls' := [.ref 0, .int y1, .int y2, .int y3, zU, .int y5]) rfl rfl ?_
        exact h17
theorem t_X12_partBy_83 {E : zEv} {D : Nat} {post : Int32 → zM → Prop} {px : String → zM → Prop} {M : zM}   {y1 : Int32} {y2 : Int32} {y3 : Int32} (h : w_X12_partBy_4 E D post px y1 y2 (y3 + (1 : Int32)) M) : w_X12_partBy_83 E D post px y1 y2 y3 M := by
  show Z E jX12_partBy (D + 1) 0 (zQi post px) 83 0 [.ref 0, .int y1, .int y2, .int y3, zU, zU] [] M
  refine z_iinc dX12_partBy_83 rfl (by decide) (ls' := [.ref 0, .int y1, .int y2, .int (y3 + (1 : Int32)), zU, zU]) rfl ?_
  refine z_goto (tgt := 4) dX12_partBy_86 (by decide) ?_
  exact h
theorem t_X12_partBy_66 {E : zEv} {D : Nat} {post : Int32 → zM → Prop} {px : String → zM → Prop} {M : zM}   {y1 : Int32} {y2 : Int32} {y3 : Int32} {y5 : Int32} {s0 : Int32} (h : w_X12_partBy_67 E D post px y1 y2 y3 y5 (0 : Int32) s0 M) : w_X12_partBy_66 E D post px y1 y2 y3 y5 s0 M := by
  show Z E jX12_partBy (D + 1) 0 (zQi post px) 66 0 [.ref 0, .int y1, .int y2, .int y3, zU, .int y5] [.int s0] M
  refine z_iconst (v := (0 : Int32)) dX12_partBy_66 rfl ?_
  exact h
theorem t_X12_partBy_67 {E : zEv} {D : Nat} {post : Int32 → zM → Prop} {px : String → zM → Prop} {M : zM}   {y1 : Int32} {y2 : Int32} {y3 : Int32} {y5 : Int32} {s0 : Int32} {s1 : Int32} (h : w_X12_partBy_30 E D post px y1 y2 y3 (s1 + s0) (y5 + (1 : Int32)) M) : w_X12_partBy_67 E D post px y1 y2 y3 y5 s0 s1 M := by
  show Z E jX12_partBy (D + 1) 0 (zQi post px) 67 0 [.ref 0, .int y1, .int y2, .int y3, zU, .int y5] [.int s0, .int s1] M
  refine z_iadd dX12_partBy_67 ?_
  refine z_istore dX12_partBy_68 (by decide) (ls' := [.ref 0, .int y1, .int y2, .int y3, .int (s1 + s0), .int y5]) rfl ?_
  refine z_iinc dX12_partBy_70 rfl (by decide) (ls' := [.ref 0, .int y1, .int y2, .int y3, .int (s1 + s0), .int (y5 + (1 : Int32))]) rfl ?_
  refine z_goto (tgt := 30) dX12_partBy_73 (by decide) ?_
  exact h
def w_X12_next_17 (E : zEv) (D : Nat) (post : Int32 → zM → Prop) (px : String → zM → Prop)  (s0 : Int32) (M : zM) : Prop := Z E jX12_next (D + 1) 0 (zQi post px) 17 0 [.ref 0, zU, zU, zU, zU, zU] [.int s0, .ref 0] M
def w_X12_next_34 (E : zEv) (D : Nat) (post : Int32 → zM → Prop) (px : String → zM → Prop)  (y1 : Int32) (y2 : Int32) (M : zM) : Prop := Z E jX12_next (D + 1) 0 (zQi post px) 34 0 [.ref 0, .int y1, .int y2, zU, zU, zU] [] M
def w_X12_next_85 (E : zEv) (D : Nat) (post : Int32 → zM → Prop) (px : String → zM → Prop)  (y1 : Int32) (y2 : Int32) (y3 : Int32) (y4 : Int32) (M : zM) : Prop := Z E jX12_next (D + 1) 0 (zQi post px) 85 0 [.ref 0, .int y1, .int y2, .int y3, .int y4, zU] [] M
def w_X12_next_68 (E : zEv) (D : Nat) (post : Int32 → zM → Prop) (px : String → zM → Prop)  (y2 : Int32) (s0 : Int32) (s1 : Int32) (M : zM) : Prop := Z E jX12_next (D + 1) 0 (zQi post px) 68 0 [.ref 0, zU, .int y2, zU, zU, zU] [.int s0, .int s1] M
def w_X12_next_133 (E : zEv) (D : Nat) (post : Int32 → zM → Prop) (px : String → zM → Prop)  (y2 : Int32) (M : zM) : Prop := Z E jX12_next (D + 1) 0 (zQi post px) 133 0 [zU, zU, .int y2, zU, zU, zU] [] M
def w_X12_next_119 (E : zEv) (D : Nat) (post : Int32 → zM → Prop) (px : String → zM → Prop)  (y1 : Int32) (y3 : Int32) (y4 : Int32) (y5 : Int32) (s0 : Int32) (M : zM) : Prop := Z E jX12_next (D + 1) 0 (zQi post px) 119 0 [.ref 0, .int y1, zU, .int y3, .int y4, .int y5] [.int s0] M
theorem e_X12_next {E : zEv} {D : Nat} {post : Int32 → zM → Prop} {px : String → zM → Prop} {M : zM}   (h : zCv E jX12_uses D 0 [.ref 0] M (fun M1 => zCi E jX12_isRows D 0 [.ref 0] M1 (fun r5 M3 => ((¬ r5 = 0 → w_X12_next_17 E D post px (0 : Int32) M3) ∧ (r5 = 0 → w_X12_next_17 E D post px (1 : Int32) M3))) px) px) : zCi E jX12_next (D + 1) 0 [.ref 0] M post px := by
  refine z_meth (by decide) (Nat.le_of_ble_eq_true rfl) ?_
  show Z E jX12_next (D + 1) 0 (zQi post px) 0 0 [.ref 0, zU, zU, zU, zU, zU] [] M
  refine z_aload_n dX12_next_0 rfl ?_
  refine z_callVv (As := []) (st := []) dX12_next_1 zi_X12_271 rfl rfl zs_0 rfl rfl (Nat.le_of_ble_eq_true rfl) (by decide) (fun _ _ hx => hx) h ?_
  intro M1 h2
  refine z_aload_n dX12_next_4 rfl ?_
  refine z_aload_n dX12_next_5 rfl ?_
  refine z_callVi (As := []) (st := [.ref 0]) dX12_next_6 zi_X12_421 rfl rfl zs_0 rfl rfl (Nat.le_of_ble_eq_true rfl) (by decide) (fun _ _ hx => hx) h2 ?_
  intro r5 M3 h4
  refine z_if_ne (tgt := 16) dX12_next_9 (by decide) (fun g6 => ?_) (fun g6 => ?_)
  · have h7 := h4.1 g6
    refine z_iconst (v := (0 : Int32)) dX12_next_16 rfl ?_
    exact h7
  · have h8 := h4.2 g6
    refine z_iconst (v := (1 : Int32)) dX12_next_12 rfl ?_
    refine z_goto (tgt := 17) dX12_next_13 (by decide) ?_
    exact h8
theorem t_X12_next_17 {E : zEv} {D : Nat} {post : Int32 → zM → Prop} {px : String → zM → Prop} {M : zM}   {s0 : Int32} (h : zCi E jX12_throwsIf D 0 [.ref 0, .int s0, .int (1 : Int32)] M (fun r3 M1 => ((r3 = 0 → zCv E jX12_laysWorlds D 0 [.ref 0] M1 (fun M7 => w_X12_next_34 E D post px (0 : Int32) (0 : Int32) M7) px) ∧ (¬ r3 = 0 → post (0 : Int32) M1))) px) : w_X12_next_17 E D post px s0 M := by
  show Z E jX12_next (D + 1) 0 (zQi post px) 17 0 [.ref 0, zU, zU, zU, zU, zU] [.int s0, .ref 0] M
  refine z_iconst (v := (1 : Int32)) dX12_next_17 rfl ?_
  refine z_callVi (As := [.int s0, .int (1 : Int32)]) (st := []) dX12_next_18 zi_X12_282 rfl rfl zs_0 rfl rfl (Nat.le_of_ble_eq_true rfl) (by decide) (fun _ _ hx => hx) h ?_
  intro r3 M1 h2
  refine z_if_eq (tgt := 26) dX12_next_21 (by decide) (fun g4 => ?_) (fun g4 => ?_)
  · have h5 := h2.1 g4
    refine z_aload_n dX12_next_26 rfl ?_
    refine z_callVv (As := []) (st := []) dX12_next_27 zi_X12_424 rfl rfl zs_0 rfl rfl (Nat.le_of_ble_eq_true rfl) (by decide) (fun _ _ hx => hx) h5 ?_
    intro M7 h8
    refine z_iconst (v := (0 : Int32)) dX12_next_30 rfl ?_
    refine z_istore_n dX12_next_31 (by decide) (ls' := [.ref 0, .int (0 : Int32), zU, zU, zU, zU]) rfl ?_
    refine z_iconst (v := (0 : Int32)) dX12_next_32 rfl ?_
    refine z_istore_n dX12_next_33 (by decide) (ls' := [.ref 0, .int (0 : Int32), .int (0 : Int32), zU, zU, zU]) rfl ?_
    exact h8
  · have h6 := h2.2 g4
    refine z_iconst (v := (0 : Int32)) dX12_next_24 rfl ?_
    exact z_iret dX12_next_25 rfl rfl (by decide) h6
theorem t_X12_next_34 {E : zEv} {D : Nat} {post : Int32 → zM → Prop} {px : String → zM → Prop} {M : zM}   {y1 : Int32} {y2 : Int32} (h : zCi E jX12_allThings D 0 [.ref 0] M (fun r3 M1 => ((r3 < y2 → w_X12_next_85 E D post px y1 (-1 : Int32) (1000000 : Int32) (0 : Int32) M1) ∧ (¬ r3 < y2 → zCi E jX12_fitsRows D 0 [.ref 0, .int y2] M1 (fun r9 M7 => vp_in y2 64 ∧ ∀ M12 : zM, M12 = zup M7 12 (y2).toNatClampNeg (vp_nar .boolean r9) → vp_in y2 64 ∧ (((M12.1 12 (y2).toNatClampNeg) = 0 → w_X12_next_68 E D post px y2 (0 : Int32) y1 M12) ∧ (¬ (M12.1 12 (y2).toNatClampNeg) = 0 → w_X12_next_68 E D post px y2 (1 : Int32) y1 M12))) px))) px) : w_X12_next_34 E D post px y1 y2 M := by
  show Z E jX12_next (D + 1) 0 (zQi post px) 34 0 [.ref 0, .int y1, .int y2, zU, zU, zU] [] M
  refine z_iload_n dX12_next_34 rfl ?_
  refine z_aload_n dX12_next_35 rfl ?_
  refine z_callVi (As := []) (st := [.int y2]) dX12_next_36 zi_X12_403 rfl rfl zs_0 rfl rfl (Nat.le_of_ble_eq_true rfl) (by decide) (fun _ _ hx => hx) h ?_
  intro r3 M1 h2
  refine z_icmp_gt (tgt := 76) dX12_next_39 (by decide) (fun g4 => ?_) (fun g4 => ?_)
  · have h5 := h2.1 g4
    refine z_iconst (v := (-1 : Int32)) dX12_next_76 rfl ?_
    refine z_istore_n dX12_next_77 (by decide) (ls' := [.ref 0, .int y1, .int (-1 : Int32), zU, zU, zU]) rfl ?_
    refine z_ldcw (v := (1000000 : Int32)) dX12_next_78 zw_2048 ?_
    refine z_istore_n dX12_next_81 (by decide) (ls' := [.ref 0, .int y1, .int (-1 : Int32), .int (1000000 : Int32), zU, zU]) rfl ?_
    refine z_iconst (v := (0 : Int32)) dX12_next_82 rfl ?_
    refine z_istore dX12_next_83 (by decide) (ls' := [.ref 0, .int y1, .int (-1 : Int32), .int (1000000 : Int32), .int (0 : Int32), zU]) rfl ?_
    exact h5
  · have h6 := h2.2 g4
    refine z_aload_n dX12_next_42 rfl ?_
    refine z_getR dX12_next_43 zg_X12_51 zs_0 rfl ?_
    refine z_iload_n dX12_next_46 rfl ?_
    refine z_aload_n dX12_next_47 rfl ?_
    refine z_iload_n dX12_next_48 rfl ?_
    refine z_callVi (As := [.int y2]) (st := [.int y2, .ref 12]) dX12_next_49 zi_X12_427 rfl rfl zs_0 rfl rfl (Nat.le_of_ble_eq_true rfl) (by decide) (fun _ _ hx => hx) h6 ?_
    intro r9 M7 h8
    obtain ⟨g11, h10⟩ := h8
    refine z_zast dX12_next_52 zs_12 g11 ?_
    generalize hhM12 : zup M7 12 (y2).toNatClampNeg (vp_nar .boolean r9) = M12
    have h13 := h10 M12 hhM12.symm
    refine z_iload_n dX12_next_53 rfl ?_
    refine z_aload_n dX12_next_54 rfl ?_
    refine z_getR dX12_next_55 zg_X12_51 zs_0 rfl ?_
    refine z_iload_n dX12_next_58 rfl ?_
    obtain ⟨g15, h14⟩ := h13
    refine z_zald dX12_next_59 zs_12 g15 ?_
    refine z_if_eq (tgt := 67) dX12_next_60 (by decide) (fun g16 => ?_) (fun g16 => ?_)
    · have h17 := h14.1 g16
      refine z_iconst (v := (0 : Int32)) dX12_next_67 rfl ?_
      refine z_weak [true, false, true, false, false, false] (ls' := [.ref 0, zU, .int y2, zU, zU, zU]) rfl rfl ?_
      exact h17
    · have h18 := h14.2 g16
      refine z_iconst (v := (1 : Int32)) dX12_next_63 rfl ?_
      refine z_goto (tgt := 68) dX12_next_64 (by decide) ?_
      refine z_weak [true, false, true, false, false, false] (ls' := [.ref 0, zU, .int y2, zU, zU, zU]) rfl rfl ?_
      exact h18
theorem t_X12_next_85 {E : zEv} {D : Nat} {post : Int32 → zM → Prop} {px : String → zM → Prop} {M : zM}   {y1 : Int32} {y2 : Int32} {y3 : Int32} {y4 : Int32} (h : zCi E jX12_questions D 0 [.ref 0] M (fun r3 M1 => ((r3 ≤ y4 → w_X12_next_133 E D post px y2 M1) ∧ (¬ r3 ≤ y4 → ((y1 ≤ (1 : Int32) → w_X12_next_133 E D post px y2 M1) ∧ (¬ y1 ≤ (1 : Int32) → zCi E jX12_partBy D 0 [.ref 0, .int y4] M1 (fun r12 M10 => ((y3 ≤ r12 → w_X12_next_119 E D post px y1 y3 y4 r12 y2 M10) ∧ (¬ y3 ≤ r12 → w_X12_next_119 E D post px y1 y3 y4 r12 y4 M10))) px))))) px) : w_X12_next_85 E D post px y1 y2 y3 y4 M := by
  show Z E jX12_next (D + 1) 0 (zQi post px) 85 0 [.ref 0, .int y1, .int y2, .int y3, .int y4, zU] [] M
  refine z_iload dX12_next_85 rfl ?_
  refine z_aload_n dX12_next_87 rfl ?_
  refine z_callVi (As := []) (st := [.int y4]) dX12_next_88 zi_X12_99 rfl rfl zs_0 rfl rfl (Nat.le_of_ble_eq_true rfl) (by decide) (fun _ _ hx => hx) h ?_
  intro r3 M1 h2
  refine z_icmp_ge (tgt := 133) dX12_next_91 (by decide) (fun g4 => ?_) (fun g4 => ?_)
  · have h5 := h2.1 g4
    refine z_weak [false, false, true, false, false, false] (ls' := [zU, zU, .int y2, zU, zU, zU]) rfl rfl ?_
    exact h5
  · have h6 := h2.2 g4
    refine z_iload_n dX12_next_94 rfl ?_
    refine z_iconst (v := (1 : Int32)) dX12_next_95 rfl ?_
    refine z_icmp_le (tgt := 133) dX12_next_96 (by decide) (fun g7 => ?_) (fun g7 => ?_)
    · have h8 := h6.1 g7
      refine z_weak [false, false, true, false, false, false] (ls' := [zU, zU, .int y2, zU, zU, zU]) rfl rfl ?_
      exact h8
    · have h9 := h6.2 g7
      refine z_aload_n dX12_next_99 rfl ?_
      refine z_iload dX12_next_100 rfl ?_
      refine z_callVi (As := [.int y4]) (st := []) dX12_next_102 zi_X12_434 rfl rfl zs_0 rfl rfl (Nat.le_of_ble_eq_true rfl) (by decide) (fun _ _ hx => hx) h9 ?_
      intro r12 M10 h11
      refine z_istore dX12_next_105 (by decide) (ls' := [.ref 0, .int y1, .int y2, .int y3, .int y4, .int r12]) rfl ?_
      refine z_iload dX12_next_107 rfl ?_
      refine z_iload_n dX12_next_109 rfl ?_
      refine z_icmp_ge (tgt := 118) dX12_next_110 (by decide) (fun g13 => ?_) (fun g13 => ?_)
      · have h14 := h11.1 g13
        refine z_iload_n dX12_next_118 rfl ?_
        refine z_weak [true, true, false, true, true, true] (ls' := [.ref 0, .int y1, zU, .int y3, .int y4, .int r12]) rfl rfl ?_
        exact h14
      · have h15 := h11.2 g13
        refine z_iload dX12_next_113 rfl ?_
        refine z_goto (tgt := 119) dX12_next_115 (by decide) ?_
        refine z_weak [true, true, false, true, true, true] (ls' := [.ref 0, .int y1, zU, .int y3, .int y4, .int r12]) rfl rfl ?_
        exact h15
theorem t_X12_next_68 {E : zEv} {D : Nat} {post : Int32 → zM → Prop} {px : String → zM → Prop} {M : zM}   {y2 : Int32} {s0 : Int32} {s1 : Int32} (h : w_X12_next_34 E D post px (s1 + s0) (y2 + (1 : Int32)) M) : w_X12_next_68 E D post px y2 s0 s1 M := by
  show Z E jX12_next (D + 1) 0 (zQi post px) 68 0 [.ref 0, zU, .int y2, zU, zU, zU] [.int s0, .int s1] M
  refine z_iadd dX12_next_68 ?_
  refine z_istore_n dX12_next_69 (by decide) (ls' := [.ref 0, .int (s1 + s0), .int y2, zU, zU, zU]) rfl ?_
  refine z_iinc dX12_next_70 rfl (by decide) (ls' := [.ref 0, .int (s1 + s0), .int (y2 + (1 : Int32)), zU, zU, zU]) rfl ?_
  refine z_goto (tgt := 34) dX12_next_73 (by decide) ?_
  exact h
theorem t_X12_next_133 {E : zEv} {D : Nat} {post : Int32 → zM → Prop} {px : String → zM → Prop} {M : zM}   {y2 : Int32} (h : post y2 M) : w_X12_next_133 E D post px y2 M := by
  show Z E jX12_next (D + 1) 0 (zQi post px) 133 0 [zU, zU, .int y2, zU, zU, zU] [] M
  refine z_iload_n dX12_next_133 rfl ?_
  exact z_iret dX12_next_134 rfl rfl (by decide) h
theorem t_X12_next_119 {E : zEv} {D : Nat} {post : Int32 → zM → Prop} {px : String → zM → Prop} {M : zM}   {y1 : Int32} {y3 : Int32} {y4 : Int32} {y5 : Int32} {s0 : Int32} (h : w_X12_next_85 E D post px y1 s0 (zmin y3 y5) (y4 + (1 : Int32)) M) : w_X12_next_119 E D post px y1 y3 y4 y5 s0 M := by
  show Z E jX12_next (D + 1) 0 (zQi post px) 119 0 [.ref 0, .int y1, zU, .int y3, .int y4, .int y5] [.int s0] M
  refine z_istore_n dX12_next_119 (by decide) (ls' := [.ref 0, .int y1, .int s0, .int y3, .int y4, .int y5]) rfl ?_
  refine z_iload_n dX12_next_120 rfl ?_
  refine z_iload dX12_next_121 rfl ?_
  refine z_min dX12_next_123 zm_X12_310 (Nat.le_of_ble_eq_true rfl) (by decide) ?_
  refine z_istore_n dX12_next_126 (by decide) (ls' := [.ref 0, .int y1, .int s0, .int (zmin y3 y5), .int y4, .int y5]) rfl ?_
  refine z_iinc dX12_next_127 rfl (by decide) (ls' := [.ref 0, .int y1, .int s0, .int (zmin y3 y5), .int (y4 + (1 : Int32)), .int y5]) rfl ?_
  refine z_goto (tgt := 85) dX12_next_130 (by decide) ?_
  refine z_weak [true, true, true, true, true, false] (ls' := [.ref 0, .int y1, .int s0, .int (zmin y3 y5), .int (y4 + (1 : Int32)), zU]) rfl rfl ?_
  exact h
def w_X12_partedBy_5 (E : zEv) (D : Nat) (post : Int32 → zM → Prop) (px : String → zM → Prop)  (y1 : Int32) (y2 : Int32) (y3 : Int32) (y4 : Int32) (M : zM) : Prop := Z E jX12_partedBy (D + 1) 0 (zQi post px) 5 0 [.ref 0, .int y1, .int y2, .int y3, .int y4] [] M
def w_X12_partedBy_34 (E : zEv) (D : Nat) (post : Int32 → zM → Prop) (px : String → zM → Prop)  (y1 : Int32) (y2 : Int32) (y4 : Int32) (s0 : Int32) (s1 : Int32) (M : zM) : Prop := Z E jX12_partedBy (D + 1) 0 (zQi post px) 34 0 [.ref 0, .int y1, .int y2, zU, .int y4] [.int s0, .int s1] M
theorem e_X12_partedBy {E : zEv} {D : Nat} {post : Int32 → zM → Prop} {px : String → zM → Prop} {M : zM} {x1 : Int32} {x2 : Int32}  (h : w_X12_partedBy_5 E D post px x1 x2 (0 : Int32) (0 : Int32) M) : zCi E jX12_partedBy (D + 1) 0 [.ref 0, .int x1, .int x2] M post px := by
  refine z_meth (by decide) (Nat.le_of_ble_eq_true rfl) ?_
  show Z E jX12_partedBy (D + 1) 0 (zQi post px) 0 0 [.ref 0, .int x1, .int x2, zU, zU] [] M
  refine z_iconst (v := (0 : Int32)) dX12_partedBy_0 rfl ?_
  refine z_istore_n dX12_partedBy_1 (by decide) (ls' := [.ref 0, .int x1, .int x2, .int (0 : Int32), zU]) rfl ?_
  refine z_iconst (v := (0 : Int32)) dX12_partedBy_2 rfl ?_
  refine z_istore dX12_partedBy_3 (by decide) (ls' := [.ref 0, .int x1, .int x2, .int (0 : Int32), .int (0 : Int32)]) rfl ?_
  exact h
theorem t_X12_partedBy_5 {E : zEv} {D : Nat} {post : Int32 → zM → Prop} {px : String → zM → Prop} {M : zM}   {y1 : Int32} {y2 : Int32} {y3 : Int32} {y4 : Int32} (h : zCi E jX12_questions D 0 [.ref 0] M (fun r3 M1 => ((r3 ≤ y4 → post y3 M1) ∧ (¬ r3 ≤ y4 → zCi E jX12_alikeBy D 0 [.ref 0, .int y4, .int y1, .int y2] M1 (fun r9 M7 => ((r9 = 0 → w_X12_partedBy_34 E D post px y1 y2 y4 ((1 : Int32) <<< (y4 &&& 31)) y3 M7) ∧ (¬ r9 = 0 → w_X12_partedBy_34 E D post px y1 y2 y4 (0 : Int32) y3 M7))) px))) px) : w_X12_partedBy_5 E D post px y1 y2 y3 y4 M := by
  show Z E jX12_partedBy (D + 1) 0 (zQi post px) 5 0 [.ref 0, .int y1, .int y2, .int y3, .int y4] [] M
  refine z_iload dX12_partedBy_5 rfl ?_
  refine z_aload_n dX12_partedBy_7 rfl ?_
  refine z_callVi (As := []) (st := [.int y4]) dX12_partedBy_8 zi_X12_99 rfl rfl zs_0 rfl rfl (Nat.le_of_ble_eq_true rfl) (by decide) (fun _ _ hx => hx) h ?_
  intro r3 M1 h2
  refine z_icmp_ge (tgt := 42) dX12_partedBy_11 (by decide) (fun g4 => ?_) (fun g4 => ?_)
  · have h5 := h2.1 g4
    refine z_iload_n dX12_partedBy_42 rfl ?_
    exact z_iret dX12_partedBy_43 rfl rfl (by decide) h5
  · have h6 := h2.2 g4
    refine z_iload_n dX12_partedBy_14 rfl ?_
    refine z_aload_n dX12_partedBy_15 rfl ?_
    refine z_iload dX12_partedBy_16 rfl ?_
    refine z_iload_n dX12_partedBy_18 rfl ?_
    refine z_iload_n dX12_partedBy_19 rfl ?_
    refine z_callVi (As := [.int y4, .int y1, .int y2]) (st := [.int y3]) dX12_partedBy_20 zi_X12_430 rfl rfl zs_0 rfl rfl (Nat.le_of_ble_eq_true rfl) (by decide) (fun _ _ hx => hx) h6 ?_
    intro r9 M7 h8
    refine z_if_eq (tgt := 30) dX12_partedBy_23 (by decide) (fun g10 => ?_) (fun g10 => ?_)
    · have h11 := h8.1 g10
      refine z_iconst (v := (1 : Int32)) dX12_partedBy_30 rfl ?_
      refine z_iload dX12_partedBy_31 rfl ?_
      refine z_ishl dX12_partedBy_33 ?_
      refine z_weak [true, true, true, false, true] (ls' := [.ref 0, .int y1, .int y2, zU, .int y4]) rfl rfl ?_
      exact h11
    · have h12 := h8.2 g10
      refine z_iconst (v := (0 : Int32)) dX12_partedBy_26 rfl ?_
      refine z_goto (tgt := 34) dX12_partedBy_27 (by decide) ?_
      refine z_weak [true, true, true, false, true] (ls' := [.ref 0, .int y1, .int y2, zU, .int y4]) rfl rfl ?_
      exact h12
theorem t_X12_partedBy_34 {E : zEv} {D : Nat} {post : Int32 → zM → Prop} {px : String → zM → Prop} {M : zM}   {y1 : Int32} {y2 : Int32} {y4 : Int32} {s0 : Int32} {s1 : Int32} (h : w_X12_partedBy_5 E D post px y1 y2 (s1 ||| s0) (y4 + (1 : Int32)) M) : w_X12_partedBy_34 E D post px y1 y2 y4 s0 s1 M := by
  show Z E jX12_partedBy (D + 1) 0 (zQi post px) 34 0 [.ref 0, .int y1, .int y2, zU, .int y4] [.int s0, .int s1] M
  refine z_ior dX12_partedBy_34 ?_
  refine z_istore_n dX12_partedBy_35 (by decide) (ls' := [.ref 0, .int y1, .int y2, .int (s1 ||| s0), .int y4]) rfl ?_
  refine z_iinc dX12_partedBy_36 rfl (by decide) (ls' := [.ref 0, .int y1, .int y2, .int (s1 ||| s0), .int (y4 + (1 : Int32))]) rfl ?_
  refine z_goto (tgt := 5) dX12_partedBy_39 (by decide) ?_
  exact h
def w_X12_laysMusts_2 (E : zEv) (D : Nat) (post : zM → Prop) (px : String → zM → Prop)  (y1 : Int32) (y2 : Int32) (M : zM) : Prop := Z E jX12_laysMusts (D + 1) 0 (zQv post px) 2 0 [.ref 0, .int y1, .int y2, zU] [] M
def w_X12_laysMusts_24 (E : zEv) (D : Nat) (post : zM → Prop) (px : String → zM → Prop)  (y1 : Int32) (y2 : Int32) (M : zM) : Prop := Z E jX12_laysMusts (D + 1) 0 (zQv post px) 24 0 [.ref 0, .int y1, .int y2, zU] [] M
def w_X12_laysMusts_34 (E : zEv) (D : Nat) (post : zM → Prop) (px : String → zM → Prop)  (y1 : Int32) (y2 : Int32) (y3 : Int32) (M : zM) : Prop := Z E jX12_laysMusts (D + 1) 0 (zQv post px) 34 0 [.ref 0, .int y1, .int y2, .int y3] [] M
def w_X12_laysMusts_70 (E : zEv) (D : Nat) (post : zM → Prop) (px : String → zM → Prop)  (y1 : Int32) (y2 : Int32) (y3 : Int32) (M : zM) : Prop := Z E jX12_laysMusts (D + 1) 0 (zQv post px) 70 0 [.ref 0, .int y1, .int y2, .int y3] [] M
theorem e_X12_laysMusts {E : zEv} {D : Nat} {post : zM → Prop} {px : String → zM → Prop} {M : zM} {x1 : Int32}  (h : w_X12_laysMusts_2 E D post px x1 (0 : Int32) M) : zCv E jX12_laysMusts (D + 1) 0 [.ref 0, .int x1] M post px := by
  refine z_meth (by decide) (Nat.le_of_ble_eq_true rfl) ?_
  show Z E jX12_laysMusts (D + 1) 0 (zQv post px) 0 0 [.ref 0, .int x1, zU, zU] [] M
  refine z_iconst (v := (0 : Int32)) dX12_laysMusts_0 rfl ?_
  refine z_istore_n dX12_laysMusts_1 (by decide) (ls' := [.ref 0, .int x1, .int (0 : Int32), zU]) rfl ?_
  exact h
theorem t_X12_laysMusts_2 {E : zEv} {D : Nat} {post : zM → Prop} {px : String → zM → Prop} {M : zM}   {y1 : Int32} {y2 : Int32} (h : (((256 : Int32) ≤ y2 → w_X12_laysMusts_24 E D post px y1 (0 : Int32) M) ∧ (¬ (256 : Int32) ≤ y2 → vp_in y2 256 ∧ ∀ M6 : zM, M6 = zup M 13 (y2).toNatClampNeg (vp_nar .boolean (0 : Int32)) → w_X12_laysMusts_2 E D post px y1 (y2 + (1 : Int32)) M6))) : w_X12_laysMusts_2 E D post px y1 y2 M := by
  show Z E jX12_laysMusts (D + 1) 0 (zQv post px) 2 0 [.ref 0, .int y1, .int y2, zU] [] M
  refine z_iload_n dX12_laysMusts_2 rfl ?_
  refine z_sipush (v := (256 : Int32)) dX12_laysMusts_3 rfl ?_
  refine z_icmp_ge (tgt := 22) dX12_laysMusts_6 (by decide) (fun g1 => ?_) (fun g1 => ?_)
  · have h2 := h.1 g1
    refine z_iconst (v := (0 : Int32)) dX12_laysMusts_22 rfl ?_
    refine z_istore_n dX12_laysMusts_23 (by decide) (ls' := [.ref 0, .int y1, .int (0 : Int32), zU]) rfl ?_
    exact h2
  · have h3 := h.2 g1
    refine z_aload_n dX12_laysMusts_9 rfl ?_
    refine z_getR dX12_laysMusts_10 zg_X12_55 zs_0 rfl ?_
    refine z_iload_n dX12_laysMusts_13 rfl ?_
    refine z_iconst (v := (0 : Int32)) dX12_laysMusts_14 rfl ?_
    obtain ⟨g5, h4⟩ := h3
    refine z_zast dX12_laysMusts_15 zs_13 g5 ?_
    generalize hhM6 : zup M 13 (y2).toNatClampNeg (vp_nar .boolean (0 : Int32)) = M6
    have h7 := h4 M6 hhM6.symm
    refine z_iinc dX12_laysMusts_16 rfl (by decide) (ls' := [.ref 0, .int y1, .int (y2 + (1 : Int32)), zU]) rfl ?_
    refine z_goto (tgt := 2) dX12_laysMusts_19 (by decide) ?_
    exact h7
theorem t_X12_laysMusts_24 {E : zEv} {D : Nat} {post : zM → Prop} {px : String → zM → Prop} {M : zM}   {y1 : Int32} {y2 : Int32} (h : zCi E jX12_allThings D 0 [.ref 0] M (fun r3 M1 => ((r3 < y2 → post M1) ∧ (¬ r3 < y2 → w_X12_laysMusts_34 E D post px y1 y2 (0 : Int32) M1))) px) : w_X12_laysMusts_24 E D post px y1 y2 M := by
  show Z E jX12_laysMusts (D + 1) 0 (zQv post px) 24 0 [.ref 0, .int y1, .int y2, zU] [] M
  refine z_iload_n dX12_laysMusts_24 rfl ?_
  refine z_aload_n dX12_laysMusts_25 rfl ?_
  refine z_callVi (As := []) (st := [.int y2]) dX12_laysMusts_26 zi_X12_403 rfl rfl zs_0 rfl rfl (Nat.le_of_ble_eq_true rfl) (by decide) (fun _ _ hx => hx) h ?_
  intro r3 M1 h2
  refine z_icmp_gt (tgt := 82) dX12_laysMusts_29 (by decide) (fun g4 => ?_) (fun g4 => ?_)
  · have h5 := h2.1 g4
    exact z_vret dX12_laysMusts_82 rfl (by decide) h5
  · have h6 := h2.2 g4
    refine z_iconst (v := (0 : Int32)) dX12_laysMusts_32 rfl ?_
    refine z_istore_n dX12_laysMusts_33 (by decide) (ls' := [.ref 0, .int y1, .int y2, .int (0 : Int32)]) rfl ?_
    exact h6
theorem t_X12_laysMusts_34 {E : zEv} {D : Nat} {post : zM → Prop} {px : String → zM → Prop} {M : zM}   {y1 : Int32} {y2 : Int32} {y3 : Int32} (h : zCi E jX12_allThings D 0 [.ref 0] M (fun r3 M1 => ((r3 < y3 → w_X12_laysMusts_24 E D post px y1 (y2 + (1 : Int32)) M1) ∧ (¬ r3 < y3 → zCi E jX12_has D 0 [.int y2, .int y1] M1 (fun r9 M7 => ((r9 = 0 → w_X12_laysMusts_70 E D post px y1 y2 y3 M7) ∧ (¬ r9 = 0 → zCi E jX12_has D 0 [.int y3, .int y1] M7 (fun r15 M13 => ((¬ r15 = 0 → w_X12_laysMusts_70 E D post px y1 y2 y3 M13) ∧ (r15 = 0 → zCi E jX12_partedBy D 0 [.ref 0, .int y2, .int y3] M13 (fun r21 M19 => vp_in r21 256 ∧ ∀ M24 : zM, M24 = zup M19 13 (r21).toNatClampNeg (vp_nar .boolean (1 : Int32)) → w_X12_laysMusts_70 E D post px y1 y2 y3 M24) px))) px))) px))) px) : w_X12_laysMusts_34 E D post px y1 y2 y3 M := by
  show Z E jX12_laysMusts (D + 1) 0 (zQv post px) 34 0 [.ref 0, .int y1, .int y2, .int y3] [] M
  refine z_iload_n dX12_laysMusts_34 rfl ?_
  refine z_aload_n dX12_laysMusts_35 rfl ?_
  refine z_callVi (As := []) (st := [.int y3]) dX12_laysMusts_36 zi_X12_403 rfl rfl zs_0 rfl rfl (Nat.le_of_ble_eq_true rfl) (by decide) (fun _ _ hx => hx) h ?_
  intro r3 M1 h2
  refine z_icmp_gt (tgt := 76) dX12_laysMusts_39 (by decide) (fun g4 => ?_) (fun g4 => ?_)
  · have h5 := h2.1 g4
    refine z_iinc dX12_laysMusts_76 rfl (by decide) (ls' := [.ref 0, .int y1, .int (y2 + (1 : Int32)), .int y3]) rfl ?_
    refine z_goto (tgt := 24) dX12_laysMusts_79 (by decide) ?_
    refine z_weak [true, true, true, false] (ls' := [.ref 0, .int y1, .int (y2 + (1 : Int32)), zU]) rfl rfl ?_
    exact h5
  · have h6 := h2.2 g4
    refine z_iload_n dX12_laysMusts_42 rfl ?_
    refine z_iload_n dX12_laysMusts_43 rfl ?_
    refine z_callSi (As := [.int y2, .int y1]) (st := []) dX12_laysMusts_44 zi_X12_147 rfl rfl (Nat.le_of_ble_eq_true rfl) (by decide) (fun _ _ hx => hx) h6 ?_
    intro r9 M7 h8
    refine z_if_eq (tgt := 70) dX12_laysMusts_47 (by decide) (fun g10 => ?_) (fun g10 => ?_)
    · have h11 := h8.1 g10
      exact h11
    · have h12 := h8.2 g10
      refine z_iload_n dX12_laysMusts_50 rfl ?_
      refine z_iload_n dX12_laysMusts_51 rfl ?_
      refine z_callSi (As := [.int y3, .int y1]) (st := []) dX12_laysMusts_52 zi_X12_147 rfl rfl (Nat.le_of_ble_eq_true rfl) (by decide) (fun _ _ hx => hx) h12 ?_
      intro r15 M13 h14
      refine z_if_ne (tgt := 70) dX12_laysMusts_55 (by decide) (fun g16 => ?_) (fun g16 => ?_)
      · have h17 := h14.1 g16
        exact h17
      · have h18 := h14.2 g16
        refine z_aload_n dX12_laysMusts_58 rfl ?_
        refine z_getR dX12_laysMusts_59 zg_X12_55 zs_0 rfl ?_
        refine z_aload_n dX12_laysMusts_62 rfl ?_
        refine z_iload_n dX12_laysMusts_63 rfl ?_
        refine z_iload_n dX12_laysMusts_64 rfl ?_
        refine z_callVi (As := [.int y2, .int y3]) (st := [.ref 13]) dX12_laysMusts_65 zi_X12_437 rfl rfl zs_0 rfl rfl (Nat.le_of_ble_eq_true rfl) (by decide) (fun _ _ hx => hx) h18 ?_
        intro r21 M19 h20
        refine z_iconst (v := (1 : Int32)) dX12_laysMusts_68 rfl ?_
        obtain ⟨g23, h22⟩ := h20
        refine z_zast dX12_laysMusts_69 zs_13 g23 ?_
        generalize hhM24 : zup M19 13 (r21).toNatClampNeg (vp_nar .boolean (1 : Int32)) = M24
        have h25 := h22 M24 hhM24.symm
        exact h25
theorem t_X12_laysMusts_70 {E : zEv} {D : Nat} {post : zM → Prop} {px : String → zM → Prop} {M : zM}   {y1 : Int32} {y2 : Int32} {y3 : Int32} (h : w_X12_laysMusts_34 E D post px y1 y2 (y3 + (1 : Int32)) M) : w_X12_laysMusts_70 E D post px y1 y2 y3 M := by
  show Z E jX12_laysMusts (D + 1) 0 (zQv post px) 70 0 [.ref 0, .int y1, .int y2, .int y3] [] M
  refine z_iinc dX12_laysMusts_70 rfl (by decide) (ls' := [.ref 0, .int y1, .int y2, .int (y3 + (1 : Int32))]) rfl ?_
  refine z_goto (tgt := 34) dX12_laysMusts_73 (by decide) ?_
  exact h
def w_X12_tellsAll_4 (E : zEv) (D : Nat) (post : Int32 → zM → Prop) (px : String → zM → Prop)  (y1 : Int32) (y2 : Int32) (y3 : Int32) (M : zM) : Prop := Z E jX12_tellsAll D 0 (zQi post px) 4 0 [.ref 0, .int y1, .int y2, .int y3] [] M
def w_X12_tellsAll_42 (E : zEv) (D : Nat) (post : Int32 → zM → Prop) (px : String → zM → Prop)  (y2 : Int32) (M : zM) : Prop := Z E jX12_tellsAll D 0 (zQi post px) 42 0 [zU, zU, .int y2, zU] [] M
def w_X12_tellsAll_30 (E : zEv) (D : Nat) (post : Int32 → zM → Prop) (px : String → zM → Prop)  (y1 : Int32) (y3 : Int32) (M : zM) : Prop := Z E jX12_tellsAll D 0 (zQi post px) 30 0 [.ref 0, .int y1, zU, .int y3] [] M
def w_X12_tellsAll_35 (E : zEv) (D : Nat) (post : Int32 → zM → Prop) (px : String → zM → Prop)  (y1 : Int32) (y3 : Int32) (s0 : Int32) (M : zM) : Prop := Z E jX12_tellsAll D 0 (zQi post px) 35 0 [.ref 0, .int y1, zU, .int y3] [.int s0] M
theorem e_X12_tellsAll {E : zEv} {D : Nat} {post : Int32 → zM → Prop} {px : String → zM → Prop} {M : zM} {x1 : Int32}  (h : w_X12_tellsAll_4 E D post px x1 (1 : Int32) (0 : Int32) M) : zCi E jX12_tellsAll D 0 [.ref 0, .int x1] M post px := by
  refine z_meth (by decide) (Nat.le_of_ble_eq_true rfl) ?_
  show Z E jX12_tellsAll D 0 (zQi post px) 0 0 [.ref 0, .int x1, zU, zU] [] M
  refine z_iconst (v := (1 : Int32)) dX12_tellsAll_0 rfl ?_
  refine z_istore_n dX12_tellsAll_1 (by decide) (ls' := [.ref 0, .int x1, .int (1 : Int32), zU]) rfl ?_
  refine z_iconst (v := (0 : Int32)) dX12_tellsAll_2 rfl ?_
  refine z_istore_n dX12_tellsAll_3 (by decide) (ls' := [.ref 0, .int x1, .int (1 : Int32), .int (0 : Int32)]) rfl ?_
  exact h
theorem t_X12_tellsAll_4 {E : zEv} {D : Nat} {post : Int32 → zM → Prop} {px : String → zM → Prop} {M : zM}   {y1 : Int32} {y2 : Int32} {y3 : Int32} (h : (((256 : Int32) ≤ y3 → w_X12_tellsAll_42 E D post px y2 M) ∧ (¬ (256 : Int32) ≤ y3 → ((y2 = 0 → w_X12_tellsAll_42 E D post px y2 M) ∧ (¬ y2 = 0 → vp_in y3 256 ∧ (((M.1 13 (y3).toNatClampNeg) = 0 → w_X12_tellsAll_30 E D post px y1 y3 M) ∧ (¬ (M.1 13 (y3).toNatClampNeg) = 0 → (((y3 &&& y1) = 0 → w_X12_tellsAll_35 E D post px y1 y3 (0 : Int32) M) ∧ (¬ (y3 &&& y1) = 0 → w_X12_tellsAll_30 E D post px y1 y3 M))))))))) : w_X12_tellsAll_4 E D post px y1 y2 y3 M := by
  show Z E jX12_tellsAll D 0 (zQi post px) 4 0 [.ref 0, .int y1, .int y2, .int y3] [] M
  refine z_iload_n dX12_tellsAll_4 rfl ?_
  refine z_sipush (v := (256 : Int32)) dX12_tellsAll_5 rfl ?_
  refine z_icmp_ge (tgt := 42) dX12_tellsAll_8 (by decide) (fun g1 => ?_) (fun g1 => ?_)
  · have h2 := h.1 g1
    refine z_weak [false, false, true, false] (ls' := [zU, zU, .int y2, zU]) rfl rfl ?_
    exact h2
  · have h3 := h.2 g1
    refine z_iload_n dX12_tellsAll_11 rfl ?_
    refine z_if_eq (tgt := 42) dX12_tellsAll_12 (by decide) (fun g4 => ?_) (fun g4 => ?_)
    · have h5 := h3.1 g4
      refine z_weak [false, false, true, false] (ls' := [zU, zU, .int y2, zU]) rfl rfl ?_
      exact h5
    · have h6 := h3.2 g4
      refine z_aload_n dX12_tellsAll_15 rfl ?_
      refine z_getR dX12_tellsAll_16 zg_X12_55 zs_0 rfl ?_
      refine z_iload_n dX12_tellsAll_19 rfl ?_
      obtain ⟨g8, h7⟩ := h6
      refine z_zald dX12_tellsAll_20 zs_13 g8 ?_
      refine z_if_eq (tgt := 30) dX12_tellsAll_21 (by decide) (fun g9 => ?_) (fun g9 => ?_)
      · have h10 := h7.1 g9
        refine z_weak [true, true, false, true] (ls' := [.ref 0, .int y1, zU, .int y3]) rfl rfl ?_
        exact h10
      · have h11 := h7.2 g9
        refine z_iload_n dX12_tellsAll_24 rfl ?_
        refine z_iload_n dX12_tellsAll_25 rfl ?_
        refine z_iand dX12_tellsAll_26 ?_
        refine z_if_eq (tgt := 34) dX12_tellsAll_27 (by decide) (fun g12 => ?_) (fun g12 => ?_)
        · have h13 := h11.1 g12
          refine z_iconst (v := (0 : Int32)) dX12_tellsAll_34 rfl ?_
          refine z_weak [true, true, false, true] (ls' := [.ref 0, .int y1, zU, .int y3]) rfl rfl ?_
          exact h13
        · have h14 := h11.2 g12
          refine z_weak [true, true, false, true] (ls' := [.ref 0, .int y1, zU, .int y3]) rfl rfl ?_
          exact h14
theorem t_X12_tellsAll_42 {E : zEv} {D : Nat} {post : Int32 → zM → Prop} {px : String → zM → Prop} {M : zM}   {y2 : Int32} (h : (y2 = 0 ∨ y2 = 1) ∧ post y2 M) : w_X12_tellsAll_42 E D post px y2 M := by
  show Z E jX12_tellsAll D 0 (zQi post px) 42 0 [zU, zU, .int y2, zU] [] M
  refine z_iload_n dX12_tellsAll_42 rfl ?_
  obtain ⟨g2, h1⟩ := h
  exact z_iret dX12_tellsAll_43 rfl (zbool g2) (by decide) h1
theorem t_X12_tellsAll_30 {E : zEv} {D : Nat} {post : Int32 → zM → Prop} {px : String → zM → Prop} {M : zM}   {y1 : Int32} {y3 : Int32} (h : w_X12_tellsAll_35 E D post px y1 y3 (1 : Int32) M) : w_X12_tellsAll_30 E D post px y1 y3 M := by
  show Z E jX12_tellsAll D 0 (zQi post px) 30 0 [.ref 0, .int y1, zU, .int y3] [] M
  refine z_iconst (v := (1 : Int32)) dX12_tellsAll_30 rfl ?_
  refine z_goto (tgt := 35) dX12_tellsAll_31 (by decide) ?_
  exact h
theorem t_X12_tellsAll_35 {E : zEv} {D : Nat} {post : Int32 → zM → Prop} {px : String → zM → Prop} {M : zM}   {y1 : Int32} {y3 : Int32} {s0 : Int32} (h : w_X12_tellsAll_4 E D post px y1 s0 (y3 + (1 : Int32)) M) : w_X12_tellsAll_35 E D post px y1 y3 s0 M := by
  show Z E jX12_tellsAll D 0 (zQi post px) 35 0 [.ref 0, .int y1, zU, .int y3] [.int s0] M
  refine z_istore_n dX12_tellsAll_35 (by decide) (ls' := [.ref 0, .int y1, .int s0, .int y3]) rfl ?_
  refine z_iinc dX12_tellsAll_36 rfl (by decide) (ls' := [.ref 0, .int y1, .int s0, .int (y3 + (1 : Int32))]) rfl ?_
  refine z_goto (tgt := 4) dX12_tellsAll_39 (by decide) ?_
  exact h
def w_X12_knownBy_13 (E : zEv) (D : Nat) (post : Int32 → zM → Prop) (px : String → zM → Prop)  (y2 : Int32) (y3 : Int32) (M : zM) : Prop := Z E jX12_knownBy (D + 1) 0 (zQi post px) 13 0 [.ref 0, zU, .int y2, .int y3] [] M
def w_X12_knownBy_39 (E : zEv) (D : Nat) (post : Int32 → zM → Prop) (px : String → zM → Prop)  (y2 : Int32) (y3 : Int32) (M : zM) : Prop := Z E jX12_knownBy (D + 1) 0 (zQi post px) 39 0 [.ref 0, zU, .int y2, .int y3] [] M
def w_X12_knownBy_49 (E : zEv) (D : Nat) (post : Int32 → zM → Prop) (px : String → zM → Prop)  (y2 : Int32) (y3 : Int32) (M : zM) : Prop := Z E jX12_knownBy (D + 1) 0 (zQi post px) 49 0 [.ref 0, zU, .int y2, .int y3] [] M
theorem e_X12_knownBy {E : zEv} {D : Nat} {post : Int32 → zM → Prop} {px : String → zM → Prop} {M : zM} {x1 : Int32}  (h : zCv E jX12_laysWorlds D 0 [.ref 0] M (fun M1 => zCv E jX12_laysMusts D 0 [.ref 0, .int x1] M1 (fun M3 => w_X12_knownBy_13 E D post px (-1 : Int32) (0 : Int32) M3) px) px) : zCi E jX12_knownBy (D + 1) 0 [.ref 0, .int x1] M post px := by
  refine z_meth (by decide) (Nat.le_of_ble_eq_true rfl) ?_
  show Z E jX12_knownBy (D + 1) 0 (zQi post px) 0 0 [.ref 0, .int x1, zU, zU] [] M
  refine z_aload_n dX12_knownBy_0 rfl ?_
  refine z_callVv (As := []) (st := []) dX12_knownBy_1 zi_X12_424 rfl rfl zs_0 rfl rfl (Nat.le_of_ble_eq_true rfl) (by decide) (fun _ _ hx => hx) h ?_
  intro M1 h2
  refine z_aload_n dX12_knownBy_4 rfl ?_
  refine z_iload_n dX12_knownBy_5 rfl ?_
  refine z_callVv (As := [.int x1]) (st := []) dX12_knownBy_6 zi_X12_440 rfl rfl zs_0 rfl rfl (Nat.le_of_ble_eq_true rfl) (by decide) (fun _ _ hx => hx) h2 ?_
  intro M3 h4
  refine z_iconst (v := (-1 : Int32)) dX12_knownBy_9 rfl ?_
  refine z_istore_n dX12_knownBy_10 (by decide) (ls' := [.ref 0, .int x1, .int (-1 : Int32), zU]) rfl ?_
  refine z_iconst (v := (0 : Int32)) dX12_knownBy_11 rfl ?_
  refine z_istore_n dX12_knownBy_12 (by decide) (ls' := [.ref 0, .int x1, .int (-1 : Int32), .int (0 : Int32)]) rfl ?_
  refine z_weak [true, false, true, true] (ls' := [.ref 0, zU, .int (-1 : Int32), .int (0 : Int32)]) rfl rfl ?_
  exact h4
theorem t_X12_knownBy_13 {E : zEv} {D : Nat} {post : Int32 → zM → Prop} {px : String → zM → Prop} {M : zM}   {y2 : Int32} {y3 : Int32} (h : zCi E jX12_questions D 0 [.ref 0] M (fun r3 M1 => ((((1 : Int32) <<< (r3 &&& 31)) ≤ y3 → post y2 M1) ∧ (¬ ((1 : Int32) <<< (r3 &&& 31)) ≤ y3 → ((y2 = (-1 : Int32) → w_X12_knownBy_39 E D post px y2 y3 M1) ∧ (¬ y2 = (-1 : Int32) → zCi E jJ6_bitCount_0f7a4 D 0 [.int y3] M1 (fun r12 M10 => zCi E jJ6_bitCount_0f7a4 D 0 [.int y2] M10 (fun r15 M13 => ((r15 ≤ r12 → w_X12_knownBy_49 E D post px y2 y3 M13) ∧ (¬ r15 ≤ r12 → w_X12_knownBy_39 E D post px y2 y3 M13))) px) px))))) px) : w_X12_knownBy_13 E D post px y2 y3 M := by
  show Z E jX12_knownBy (D + 1) 0 (zQi post px) 13 0 [.ref 0, zU, .int y2, .int y3] [] M
  refine z_iload_n dX12_knownBy_13 rfl ?_
  refine z_iconst (v := (1 : Int32)) dX12_knownBy_14 rfl ?_
  refine z_aload_n dX12_knownBy_15 rfl ?_
  refine z_callVi (As := []) (st := [.int (1 : Int32), .int y3]) dX12_knownBy_16 zi_X12_99 rfl rfl zs_0 rfl rfl (Nat.le_of_ble_eq_true rfl) (by decide) (fun _ _ hx => hx) h ?_
  intro r3 M1 h2
  refine z_ishl dX12_knownBy_19 ?_
  refine z_icmp_ge (tgt := 55) dX12_knownBy_20 (by decide) (fun g4 => ?_) (fun g4 => ?_)
  · have h5 := h2.1 g4
    refine z_iload_n dX12_knownBy_55 rfl ?_
    exact z_iret dX12_knownBy_56 rfl rfl (by decide) h5
  · have h6 := h2.2 g4
    refine z_iload_n dX12_knownBy_23 rfl ?_
    refine z_iconst (v := (-1 : Int32)) dX12_knownBy_24 rfl ?_
    refine z_icmp_eq (tgt := 39) dX12_knownBy_25 (by decide) (fun g7 => ?_) (fun g7 => ?_)
    · have h8 := h6.1 g7
      exact h8
    · have h9 := h6.2 g7
      refine z_iload_n dX12_knownBy_28 rfl ?_
      refine z_callSi (As := [.int y3]) (st := []) dX12_knownBy_29 zi_X12_443 rfl rfl (Nat.le_of_ble_eq_true rfl) (by decide) (fun _ _ hx => hx) h9 ?_
      intro r12 M10 h11
      refine z_iload_n dX12_knownBy_32 rfl ?_
      refine z_callSi (As := [.int y2]) (st := [.int r12]) dX12_knownBy_33 zi_X12_443 rfl rfl (Nat.le_of_ble_eq_true rfl) (by decide) (fun _ _ hx => hx) h11 ?_
      intro r15 M13 h14
      refine z_icmp_ge (tgt := 49) dX12_knownBy_36 (by decide) (fun g16 => ?_) (fun g16 => ?_)
      · have h17 := h14.1 g16
        exact h17
      · have h18 := h14.2 g16
        exact h18
theorem t_X12_knownBy_39 {E : zEv} {D : Nat} {post : Int32 → zM → Prop} {px : String → zM → Prop} {M : zM}   {y2 : Int32} {y3 : Int32} (h : zCi E jX12_tellsAll D 0 [.ref 0, .int y3] M (fun r3 M1 => ((r3 = 0 → w_X12_knownBy_49 E D post px y2 y3 M1) ∧ (¬ r3 = 0 → w_X12_knownBy_49 E D post px y3 y3 M1))) px) : w_X12_knownBy_39 E D post px y2 y3 M := by
  show Z E jX12_knownBy (D + 1) 0 (zQi post px) 39 0 [.ref 0, zU, .int y2, .int y3] [] M
  refine z_aload_n dX12_knownBy_39 rfl ?_
  refine z_iload_n dX12_knownBy_40 rfl ?_
  refine z_callVi (As := [.int y3]) (st := []) dX12_knownBy_41 zi_X12_448 rfl rfl zs_0 rfl rfl (Nat.le_of_ble_eq_true rfl) (by decide) (fun _ _ hx => hx) h ?_
  intro r3 M1 h2
  refine z_if_eq (tgt := 49) dX12_knownBy_44 (by decide) (fun g4 => ?_) (fun g4 => ?_)
  · have h5 := h2.1 g4
    exact h5
  · have h6 := h2.2 g4
    refine z_iload_n dX12_knownBy_47 rfl ?_
    refine z_istore_n dX12_knownBy_48 (by decide) (ls' := [.ref 0, zU, .int y3, .int y3]) rfl ?_
    exact h6
theorem t_X12_knownBy_49 {E : zEv} {D : Nat} {post : Int32 → zM → Prop} {px : String → zM → Prop} {M : zM}   {y2 : Int32} {y3 : Int32} (h : w_X12_knownBy_13 E D post px y2 (y3 + (1 : Int32)) M) : w_X12_knownBy_49 E D post px y2 y3 M := by
  show Z E jX12_knownBy (D + 1) 0 (zQi post px) 49 0 [.ref 0, zU, .int y2, .int y3] [] M
  refine z_iinc dX12_knownBy_49 rfl (by decide) (ls' := [.ref 0, zU, .int y2, .int (y3 + (1 : Int32))]) rfl ?_
  refine z_goto (tgt := 13) dX12_knownBy_52 (by decide) ?_
  exact h
def w_X12_dark_13 (E : zEv) (D : Nat) (post : Int32 → zM → Prop) (px : String → zM → Prop)  (y1 : Int32) (y2 : Int32) (M : zM) : Prop := Z E jX12_dark (D + 1) 0 (zQi post px) 13 0 [.ref 0, .int y1, .int y2] [] M
def w_X12_dark_43 (E : zEv) (D : Nat) (post : Int32 → zM → Prop) (px : String → zM → Prop)  (y2 : Int32) (s0 : Int32) (s1 : Int32) (M : zM) : Prop := Z E jX12_dark (D + 1) 0 (zQi post px) 43 0 [.ref 0, zU, .int y2] [.int s0, .int s1] M
theorem e_X12_dark {E : zEv} {D : Nat} {post : Int32 → zM → Prop} {px : String → zM → Prop} {M : zM}   (h : ∀ M1 : zM, M1 = zup M 0 0 (0 : Int32) → zCv E jX12_laysWorlds D 0 [.ref 0] M1 (fun M3 => w_X12_dark_13 E D post px (0 : Int32) (0 : Int32) M3) px) : zCi E jX12_dark (D + 1) 0 [.ref 0] M post px := by
  refine z_meth (by decide) (Nat.le_of_ble_eq_true rfl) ?_
  show Z E jX12_dark (D + 1) 0 (zQi post px) 0 0 [.ref 0, zU, zU] [] M
  refine z_aload_n dX12_dark_0 rfl ?_
  refine z_iconst (v := (0 : Int32)) dX12_dark_1 rfl ?_
  refine z_putI dX12_dark_2 zp_X12_3 zs_0 rfl rfl rfl ?_
  generalize hhM1 : zup M 0 0 (0 : Int32) = M1
  have h2 := h M1 hhM1.symm
  refine z_aload_n dX12_dark_5 rfl ?_
  refine z_callVv (As := []) (st := []) dX12_dark_6 zi_X12_424 rfl rfl zs_0 rfl rfl (Nat.le_of_ble_eq_true rfl) (by decide) (fun _ _ hx => hx) h2 ?_
  intro M3 h4
  refine z_iconst (v := (0 : Int32)) dX12_dark_9 rfl ?_
  refine z_istore_n dX12_dark_10 (by decide) (ls' := [.ref 0, .int (0 : Int32), zU]) rfl ?_
  refine z_iconst (v := (0 : Int32)) dX12_dark_11 rfl ?_
  refine z_istore_n dX12_dark_12 (by decide) (ls' := [.ref 0, .int (0 : Int32), .int (0 : Int32)]) rfl ?_
  exact h4
theorem t_X12_dark_13 {E : zEv} {D : Nat} {post : Int32 → zM → Prop} {px : String → zM → Prop} {M : zM}   {y1 : Int32} {y2 : Int32} (h : zCi E jX12_things D 0 [.ref 0] M (fun r3 M1 => ((r3 ≤ y2 → post y1 M1) ∧ (¬ r3 ≤ y2 → zCv E jX12_laysMusts D 0 [.ref 0, .int y2] M1 (fun M7 => (((M7.1 13 ((0 : Int32)).toNatClampNeg) = 0 → w_X12_dark_43 E D post px y2 (0 : Int32) y1 M7) ∧ (¬ (M7.1 13 ((0 : Int32)).toNatClampNeg) = 0 → w_X12_dark_43 E D post px y2 ((1 : Int32) <<< (y2 &&& 31)) y1 M7))) px))) px) : w_X12_dark_13 E D post px y1 y2 M := by
  show Z E jX12_dark (D + 1) 0 (zQi post px) 13 0 [.ref 0, .int y1, .int y2] [] M
  refine z_iload_n dX12_dark_13 rfl ?_
  refine z_aload_n dX12_dark_14 rfl ?_
  refine z_callVi (As := []) (st := [.int y2]) dX12_dark_15 zi_X12_85 rfl rfl zs_0 rfl rfl (Nat.le_of_ble_eq_true rfl) (by decide) (fun _ _ hx => hx) h ?_
  intro r3 M1 h2
  refine z_icmp_ge (tgt := 51) dX12_dark_18 (by decide) (fun g4 => ?_) (fun g4 => ?_)
  · have h5 := h2.1 g4
    refine z_iload_n dX12_dark_51 rfl ?_
    exact z_iret dX12_dark_52 rfl rfl (by decide) h5
  · have h6 := h2.2 g4
    refine z_aload_n dX12_dark_21 rfl ?_
    refine z_iload_n dX12_dark_22 rfl ?_
    refine z_callVv (As := [.int y2]) (st := []) dX12_dark_23 zi_X12_440 rfl rfl zs_0 rfl rfl (Nat.le_of_ble_eq_true rfl) (by decide) (fun _ _ hx => hx) h6 ?_
    intro M7 h8
    refine z_iload_n dX12_dark_26 rfl ?_
    refine z_aload_n dX12_dark_27 rfl ?_
    refine z_getR dX12_dark_28 zg_X12_55 zs_0 rfl ?_
    refine z_iconst (v := (0 : Int32)) dX12_dark_31 rfl ?_
    refine z_zald dX12_dark_32 zs_13 (by unfold vp_in; decide) ?_
    refine z_if_eq (tgt := 42) dX12_dark_33 (by decide) (fun g9 => ?_) (fun g9 => ?_)
    · have h10 := h8.1 g9
      refine z_iconst (v := (0 : Int32)) dX12_dark_42 rfl ?_
      refine z_weak [true, false, true] (ls' := [.ref 0, zU, .int y2]) rfl rfl ?_
      exact h10
    · have h11 := h8.2 g9
      refine z_iconst (v := (1 : Int32)) dX12_dark_36 rfl ?_
      refine z_iload_n dX12_dark_37 rfl ?_
      refine z_ishl dX12_dark_38 ?_
      refine z_goto (tgt := 43) dX12_dark_39 (by decide) ?_
      refine z_weak [true, false, true] (ls' := [.ref 0, zU, .int y2]) rfl rfl ?_
      exact h11
theorem t_X12_dark_43 {E : zEv} {D : Nat} {post : Int32 → zM → Prop} {px : String → zM → Prop} {M : zM}   {y2 : Int32} {s0 : Int32} {s1 : Int32} (h : w_X12_dark_13 E D post px (s1 ||| s0) (y2 + (1 : Int32)) M) : w_X12_dark_43 E D post px y2 s0 s1 M := by
  show Z E jX12_dark (D + 1) 0 (zQi post px) 43 0 [.ref 0, zU, .int y2] [.int s0, .int s1] M
  refine z_ior dX12_dark_43 ?_
  refine z_istore_n dX12_dark_44 (by decide) (ls' := [.ref 0, .int (s1 ||| s0), .int y2]) rfl ?_
  refine z_iinc dX12_dark_45 rfl (by decide) (ls' := [.ref 0, .int (s1 ||| s0), .int (y2 + (1 : Int32))]) rfl ?_
  refine z_goto (tgt := 13) dX12_dark_48 (by decide) ?_
  exact h
def w_X12_tells_28 (E : zEv) (D : Nat) (post : Int32 → zM → Prop) (px : String → zM → Prop)  (y1 : Int32) (y2 : Int32) (y3 : Int32) (M : zM) : Prop := Z E jX12_tells (D + 1) 0 (zQi post px) 28 0 [.ref 0, .int y1, .int y2, .int y3, zU, zU] [] M
def w_X12_tells_42 (E : zEv) (D : Nat) (post : Int32 → zM → Prop) (px : String → zM → Prop)  (y1 : Int32) (y2 : Int32) (y3 : Int32) (y4 : Int32) (y5 : Int32) (M : zM) : Prop := Z E jX12_tells (D + 1) 0 (zQi post px) 42 0 [.ref 0, .int y1, .int y2, .int y3, .int y4, .int y5] [] M
def w_X12_tells_77 (E : zEv) (D : Nat) (post : Int32 → zM → Prop) (px : String → zM → Prop)  (y1 : Int32) (y2 : Int32) (y3 : Int32) (y4 : Int32) (M : zM) : Prop := Z E jX12_tells (D + 1) 0 (zQi post px) 77 0 [.ref 0, .int y1, .int y2, .int y3, .int y4, zU] [] M
def w_X12_tells_69 (E : zEv) (D : Nat) (post : Int32 → zM → Prop) (px : String → zM → Prop)  (y1 : Int32) (y2 : Int32) (y3 : Int32) (y5 : Int32) (s0 : Int32) (M : zM) : Prop := Z E jX12_tells (D + 1) 0 (zQi post px) 69 0 [.ref 0, .int y1, .int y2, .int y3, zU, .int y5] [.int s0] M
def w_X12_tells_88 (E : zEv) (D : Nat) (post : Int32 → zM → Prop) (px : String → zM → Prop)  (y1 : Int32) (y3 : Int32) (s0 : Int32) (s1 : Int32) (M : zM) : Prop := Z E jX12_tells (D + 1) 0 (zQi post px) 88 0 [.ref 0, .int y1, zU, .int y3, zU, zU] [.int s0, .int s1] M
theorem e_X12_tells {E : zEv} {D : Nat} {post : Int32 → zM → Prop} {px : String → zM → Prop} {M : zM} {x1 : Int32}  (h : ∀ M1 : zM, M1 = zup M 0 0 (0 : Int32) → zCi E jX12_noQuestion D 0 [.ref 0, .int x1] M1 (fun r5 M3 => zCi E jX12_throwsIf D 0 [.ref 0, .int r5, .int (1 : Int32)] M3 (fun r8 M6 => ((r8 = 0 → zCv E jX12_laysWorlds D 0 [.ref 0] M6 (fun M12 => w_X12_tells_28 E D post px x1 (0 : Int32) (0 : Int32) M12) px) ∧ (¬ r8 = 0 → post (0 : Int32) M6))) px) px) : zCi E jX12_tells (D + 1) 0 [.ref 0, .int x1] M post px := by
  refine z_meth (by decide) (Nat.le_of_ble_eq_true rfl) ?_
  show Z E jX12_tells (D + 1) 0 (zQi post px) 0 0 [.ref 0, .int x1, zU, zU, zU, zU] [] M
  refine z_aload_n dX12_tells_0 rfl ?_
  refine z_iconst (v := (0 : Int32)) dX12_tells_1 rfl ?_
  refine z_putI dX12_tells_2 zp_X12_3 zs_0 rfl rfl rfl ?_
  generalize hhM1 : zup M 0 0 (0 : Int32) = M1
  have h2 := h M1 hhM1.symm
  refine z_aload_n dX12_tells_5 rfl ?_
  refine z_aload_n dX12_tells_6 rfl ?_
  refine z_iload_n dX12_tells_7 rfl ?_
  refine z_callVi (As := [.int x1]) (st := [.ref 0]) dX12_tells_8 zi_X12_391 rfl rfl zs_0 rfl rfl (Nat.le_of_ble_eq_true rfl) (by decide) (fun _ _ hx => hx) h2 ?_
  intro r5 M3 h4
  refine z_iconst (v := (1 : Int32)) dX12_tells_11 rfl ?_
  refine z_callVi (As := [.int r5, .int (1 : Int32)]) (st := []) dX12_tells_12 zi_X12_282 rfl rfl zs_0 rfl rfl (Nat.le_of_ble_eq_true rfl) (by decide) (fun _ _ hx => hx) h4 ?_
  intro r8 M6 h7
  refine z_if_eq (tgt := 20) dX12_tells_15 (by decide) (fun g9 => ?_) (fun g9 => ?_)
  · have h10 := h7.1 g9
    refine z_aload_n dX12_tells_20 rfl ?_
    refine z_callVv (As := []) (st := []) dX12_tells_21 zi_X12_424 rfl rfl zs_0 rfl rfl (Nat.le_of_ble_eq_true rfl) (by decide) (fun _ _ hx => hx) h10 ?_
    intro M12 h13
    refine z_iconst (v := (0 : Int32)) dX12_tells_24 rfl ?_
    refine z_istore_n dX12_tells_25 (by decide) (ls' := [.ref 0, .int x1, .int (0 : Int32), zU, zU, zU]) rfl ?_
    refine z_iconst (v := (0 : Int32)) dX12_tells_26 rfl ?_
    refine z_istore_n dX12_tells_27 (by decide) (ls' := [.ref 0, .int x1, .int (0 : Int32), .int (0 : Int32), zU, zU]) rfl ?_
    exact h13
  · have h11 := h7.2 g9
    refine z_iconst (v := (0 : Int32)) dX12_tells_18 rfl ?_
    exact z_iret dX12_tells_19 rfl rfl (by decide) h11
theorem t_X12_tells_28 {E : zEv} {D : Nat} {post : Int32 → zM → Prop} {px : String → zM → Prop} {M : zM}   {y1 : Int32} {y2 : Int32} {y3 : Int32} (h : zCi E jX12_allThings D 0 [.ref 0] M (fun r3 M1 => ((r3 < y3 → post y2 M1) ∧ (¬ r3 < y3 → w_X12_tells_42 E D post px y1 y2 y3 (1 : Int32) (0 : Int32) M1))) px) : w_X12_tells_28 E D post px y1 y2 y3 M := by
  show Z E jX12_tells (D + 1) 0 (zQi post px) 28 0 [.ref 0, .int y1, .int y2, .int y3, zU, zU] [] M
  refine z_iload_n dX12_tells_28 rfl ?_
  refine z_aload_n dX12_tells_29 rfl ?_
  refine z_callVi (As := []) (st := [.int y3]) dX12_tells_30 zi_X12_403 rfl rfl zs_0 rfl rfl (Nat.le_of_ble_eq_true rfl) (by decide) (fun _ _ hx => hx) h ?_
  intro r3 M1 h2
  refine z_icmp_gt (tgt := 96) dX12_tells_33 (by decide) (fun g4 => ?_) (fun g4 => ?_)
  · have h5 := h2.1 g4
    refine z_iload_n dX12_tells_96 rfl ?_
    exact z_iret dX12_tells_97 rfl rfl (by decide) h5
  · have h6 := h2.2 g4
    refine z_iconst (v := (1 : Int32)) dX12_tells_36 rfl ?_
    refine z_istore dX12_tells_37 (by decide) (ls' := [.ref 0, .int y1, .int y2, .int y3, .int (1 : Int32), zU]) rfl ?_
    refine z_iconst (v := (0 : Int32)) dX12_tells_39 rfl ?_
    refine z_istore dX12_tells_40 (by decide) (ls' := [.ref 0, .int y1, .int y2, .int y3, .int (1 : Int32), .int (0 : Int32)]) rfl ?_
    exact h6
theorem t_X12_tells_42 {E : zEv} {D : Nat} {post : Int32 → zM → Prop} {px : String → zM → Prop} {M : zM}   {y1 : Int32} {y2 : Int32} {y3 : Int32} {y4 : Int32} {y5 : Int32} (h : ((y3 ≤ y5 → w_X12_tells_77 E D post px y1 y2 y3 y4 M) ∧ (¬ y3 ≤ y5 → ((y4 = 0 → w_X12_tells_77 E D post px y1 y2 y3 y4 M) ∧ (¬ y4 = 0 → zCi E jX12_alikeBy D 0 [.ref 0, .int y1, .int y3, .int y5] M (fun r9 M7 => ((¬ r9 = 0 → w_X12_tells_69 E D post px y1 y2 y3 y5 (0 : Int32) M7) ∧ (r9 = 0 → w_X12_tells_69 E D post px y1 y2 y3 y5 (1 : Int32) M7))) px))))) : w_X12_tells_42 E D post px y1 y2 y3 y4 y5 M := by
  show Z E jX12_tells (D + 1) 0 (zQi post px) 42 0 [.ref 0, .int y1, .int y2, .int y3, .int y4, .int y5] [] M
  refine z_iload dX12_tells_42 rfl ?_
  refine z_iload_n dX12_tells_44 rfl ?_
  refine z_icmp_ge (tgt := 77) dX12_tells_45 (by decide) (fun g1 => ?_) (fun g1 => ?_)
  · have h2 := h.1 g1
    refine z_weak [true, true, true, true, true, false] (ls' := [.ref 0, .int y1, .int y2, .int y3, .int y4, zU]) rfl rfl ?_
    exact h2
  · have h3 := h.2 g1
    refine z_iload dX12_tells_48 rfl ?_
    refine z_if_eq (tgt := 77) dX12_tells_50 (by decide) (fun g4 => ?_) (fun g4 => ?_)
    · have h5 := h3.1 g4
      refine z_weak [true, true, true, true, true, false] (ls' := [.ref 0, .int y1, .int y2, .int y3, .int y4, zU]) rfl rfl ?_
      exact h5
    · have h6 := h3.2 g4
      refine z_aload_n dX12_tells_53 rfl ?_
      refine z_iload_n dX12_tells_54 rfl ?_
      refine z_iload_n dX12_tells_55 rfl ?_
      refine z_iload dX12_tells_56 rfl ?_
      refine z_callVi (As := [.int y1, .int y3, .int y5]) (st := []) dX12_tells_58 zi_X12_430 rfl rfl zs_0 rfl rfl (Nat.le_of_ble_eq_true rfl) (by decide) (fun _ _ hx => hx) h6 ?_
      intro r9 M7 h8
      refine z_if_ne (tgt := 68) dX12_tells_61 (by decide) (fun g10 => ?_) (fun g10 => ?_)
      · have h11 := h8.1 g10
        refine z_iconst (v := (0 : Int32)) dX12_tells_68 rfl ?_
        refine z_weak [true, true, true, true, false, true] (ls' := [.ref 0, .int y1, .int y2, .int y3, zU, .int y5]) rfl rfl ?_
        exact h11
      · have h12 := h8.2 g10
        refine z_iconst (v := (1 : Int32)) dX12_tells_64 rfl ?_
        refine z_goto (tgt := 69) dX12_tells_65 (by decide) ?_
        refine z_weak [true, true, true, true, false, true] (ls' := [.ref 0, .int y1, .int y2, .int y3, zU, .int y5]) rfl rfl ?_
        exact h12
theorem t_X12_tells_77 {E : zEv} {D : Nat} {post : Int32 → zM → Prop} {px : String → zM → Prop} {M : zM}   {y1 : Int32} {y2 : Int32} {y3 : Int32} {y4 : Int32} (h : ((y4 = 0 → w_X12_tells_88 E D post px y1 y3 (0 : Int32) y2 M) ∧ (¬ y4 = 0 → w_X12_tells_88 E D post px y1 y3 (1 : Int32) y2 M))) : w_X12_tells_77 E D post px y1 y2 y3 y4 M := by
  show Z E jX12_tells (D + 1) 0 (zQi post px) 77 0 [.ref 0, .int y1, .int y2, .int y3, .int y4, zU] [] M
  refine z_iload_n dX12_tells_77 rfl ?_
  refine z_iload dX12_tells_78 rfl ?_
  refine z_if_eq (tgt := 87) dX12_tells_80 (by decide) (fun g1 => ?_) (fun g1 => ?_)
  · have h2 := h.1 g1
    refine z_iconst (v := (0 : Int32)) dX12_tells_87 rfl ?_
    refine z_weak [true, true, false, true, false, false] (ls' := [.ref 0, .int y1, zU, .int y3, zU, zU]) rfl rfl ?_
    exact h2
  · have h3 := h.2 g1
    refine z_iconst (v := (1 : Int32)) dX12_tells_83 rfl ?_
    refine z_goto (tgt := 88) dX12_tells_84 (by decide) ?_
    refine z_weak [true, true, false, true, false, false] (ls' := [.ref 0, .int y1, zU, .int y3, zU, zU]) rfl rfl ?_
    exact h3
theorem t_X12_tells_69 {E : zEv} {D : Nat} {post : Int32 → zM → Prop} {px : String → zM → Prop} {M : zM}   {y1 : Int32} {y2 : Int32} {y3 : Int32} {y5 : Int32} {s0 : Int32} (h : w_X12_tells_42 E D post px y1 y2 y3 s0 (y5 + (1 : Int32)) M) : w_X12_tells_69 E D post px y1 y2 y3 y5 s0 M := by
  show Z E jX12_tells (D + 1) 0 (zQi post px) 69 0 [.ref 0, .int y1, .int y2, .int y3, zU, .int y5] [.int s0] M
  refine z_istore dX12_tells_69 (by decide) (ls' := [.ref 0, .int y1, .int y2, .int y3, .int s0, .int y5]) rfl ?_
  refine z_iinc dX12_tells_71 rfl (by decide) (ls' := [.ref 0, .int y1, .int y2, .int y3, .int s0, .int (y5 + (1 : Int32))]) rfl ?_
  refine z_goto (tgt := 42) dX12_tells_74 (by decide) ?_
  exact h
theorem t_X12_tells_88 {E : zEv} {D : Nat} {post : Int32 → zM → Prop} {px : String → zM → Prop} {M : zM}   {y1 : Int32} {y3 : Int32} {s0 : Int32} {s1 : Int32} (h : w_X12_tells_28 E D post px y1 (s1 + s0) (y3 + (1 : Int32)) M) : w_X12_tells_88 E D post px y1 y3 s0 s1 M := by
  show Z E jX12_tells (D + 1) 0 (zQi post px) 88 0 [.ref 0, .int y1, zU, .int y3, zU, zU] [.int s0, .int s1] M
  refine z_iadd dX12_tells_88 ?_
  refine z_istore_n dX12_tells_89 (by decide) (ls' := [.ref 0, .int y1, .int (s1 + s0), .int y3, zU, zU]) rfl ?_
  refine z_iinc dX12_tells_90 rfl (by decide) (ls' := [.ref 0, .int y1, .int (s1 + s0), .int (y3 + (1 : Int32)), zU, zU]) rfl ?_
  refine z_goto (tgt := 28) dX12_tells_93 (by decide) ?_
  exact h
def w_X12_isTouched_18 (E : zEv) (D : Nat) (post : Int32 → zM → Prop) (px : String → zM → Prop)  (s0 : Int32) (M : zM) : Prop := Z E jX12_isTouched (D + 1) 0 (zQi post px) 18 0 [zU, zU, zU] [.int s0] M
theorem e_X12_isTouched {E : zEv} {D : Nat} {post : Int32 → zM → Prop} {px : String → zM → Prop} {M : zM} {x1 : Int32} {x2 : Int32}  (h : zCi E jX12_saidBy D 0 [.ref 0, .int x1] M (fun r3 M1 => zCi E jX12_weightOn D 0 [.ref 0, .int x2, .int r3] M1 (fun r6 M4 => ((r6 ≤ 0 → w_X12_isTouched_18 E D post px (0 : Int32) M4) ∧ (¬ r6 ≤ 0 → w_X12_isTouched_18 E D post px (1 : Int32) M4))) px) px) : zCi E jX12_isTouched (D + 1) 0 [.ref 0, .int x1, .int x2] M post px := by
  refine z_meth (by decide) (Nat.le_of_ble_eq_true rfl) ?_
  show Z E jX12_isTouched (D + 1) 0 (zQi post px) 0 0 [.ref 0, .int x1, .int x2] [] M
  refine z_aload_n dX12_isTouched_0 rfl ?_
  refine z_iload_n dX12_isTouched_1 rfl ?_
  refine z_aload_n dX12_isTouched_2 rfl ?_
  refine z_iload_n dX12_isTouched_3 rfl ?_
  refine z_callVi (As := [.int x1]) (st := [.int x2, .ref 0]) dX12_isTouched_4 zi_X12_322 rfl rfl zs_0 rfl rfl (Nat.le_of_ble_eq_true rfl) (by decide) (fun _ _ hx => hx) h ?_
  intro r3 M1 h2
  refine z_callVi (As := [.int x2, .int r3]) (st := []) dX12_isTouched_7 zi_X12_288 rfl rfl zs_0 rfl rfl (Nat.le_of_ble_eq_true rfl) (by decide) (fun _ _ hx => hx) h2 ?_
  intro r6 M4 h5
  refine z_if_le (tgt := 17) dX12_isTouched_10 (by decide) (fun g7 => ?_) (fun g7 => ?_)
  · have h8 := h5.1 g7
    refine z_iconst (v := (0 : Int32)) dX12_isTouched_17 rfl ?_
    refine z_weak [false, false, false] (ls' := [zU, zU, zU]) rfl rfl ?_
    exact h8
  · have h9 := h5.2 g7
    refine z_iconst (v := (1 : Int32)) dX12_isTouched_13 rfl ?_
    refine z_goto (tgt := 18) dX12_isTouched_14 (by decide) ?_
    refine z_weak [false, false, false] (ls' := [zU, zU, zU]) rfl rfl ?_
    exact h9
theorem t_X12_isTouched_18 {E : zEv} {D : Nat} {post : Int32 → zM → Prop} {px : String → zM → Prop} {M : zM}   {s0 : Int32} (h : (s0 = 0 ∨ s0 = 1) ∧ post s0 M) : w_X12_isTouched_18 E D post px s0 M := by
  show Z E jX12_isTouched (D + 1) 0 (zQi post px) 18 0 [zU, zU, zU] [.int s0] M
  obtain ⟨g2, h1⟩ := h
  exact z_iret dX12_isTouched_18 rfl (zbool g2) (by decide) h1
def w_X12_sharedIn_4 (E : zEv) (D : Nat) (post : Int32 → zM → Prop) (px : String → zM → Prop)  (y1 : Int32) (y2 : Int32) (y3 : Int32) (M : zM) : Prop := Z E jX12_sharedIn (D + 1) 0 (zQi post px) 4 0 [.ref 0, .int y1, .int y2, .int y3] [] M
def w_X12_sharedIn_45 (E : zEv) (D : Nat) (post : Int32 → zM → Prop) (px : String → zM → Prop)  (y1 : Int32) (y3 : Int32) (s0 : Int32) (s1 : Int32) (M : zM) : Prop := Z E jX12_sharedIn (D + 1) 0 (zQi post px) 45 0 [.ref 0, .int y1, zU, .int y3] [.int s0, .int s1] M
theorem e_X12_sharedIn {E : zEv} {D : Nat} {post : Int32 → zM → Prop} {px : String → zM → Prop} {M : zM} {x1 : Int32}  (h : w_X12_sharedIn_4 E D post px x1 (0 : Int32) (1 : Int32) M) : zCi E jX12_sharedIn (D + 1) 0 [.ref 0, .int x1] M post px := by
  refine z_meth (by decide) (Nat.le_of_ble_eq_true rfl) ?_
  show Z E jX12_sharedIn (D + 1) 0 (zQi post px) 0 0 [.ref 0, .int x1, zU, zU] [] M
  refine z_iconst (v := (0 : Int32)) dX12_sharedIn_0 rfl ?_
  refine z_istore_n dX12_sharedIn_1 (by decide) (ls' := [.ref 0, .int x1, .int (0 : Int32), zU]) rfl ?_
  refine z_iconst (v := (1 : Int32)) dX12_sharedIn_2 rfl ?_
  refine z_istore_n dX12_sharedIn_3 (by decide) (ls' := [.ref 0, .int x1, .int (0 : Int32), .int (1 : Int32)]) rfl ?_
  exact h
theorem t_X12_sharedIn_4 {E : zEv} {D : Nat} {post : Int32 → zM → Prop} {px : String → zM → Prop} {M : zM}   {y1 : Int32} {y2 : Int32} {y3 : Int32} (h : zCi E jX12_witnesses D 0 [.ref 0] M (fun r3 M1 => ((r3 ≤ y3 → post y2 M1) ∧ (¬ r3 ≤ y3 → vp_in y3 5 ∧ zCi E jX12_isTouched D 0 [.ref 0, .int y1, .int (M1.1 14 (y3).toNatClampNeg)] M1 (fun r11 M9 => vp_in (y3 - (1 : Int32)) 5 ∧ zCi E jX12_isTouched D 0 [.ref 0, .int y1, .int (M9.1 14 ((y3 - (1 : Int32))).toNatClampNeg)] M9 (fun r16 M14 => ((r11 = r16 → w_X12_sharedIn_45 E D post px y1 y3 (0 : Int32) y2 M14) ∧ (¬ r11 = r16 → w_X12_sharedIn_45 E D post px y1 y3 (1 : Int32) y2 M14))) px) px))) px) : w_X12_sharedIn_4 E D post px y1 y2 y3 M := by
  show Z E jX12_sharedIn (D + 1) 0 (zQi post px) 4 0 [.ref 0, .int y1, .int y2, .int y3] [] M
  refine z_iload_n dX12_sharedIn_4 rfl ?_
  refine z_aload_n dX12_sharedIn_5 rfl ?_
  refine z_callVi (As := []) (st := [.int y3]) dX12_sharedIn_6 zi_X12_92 rfl rfl zs_0 rfl rfl (Nat.le_of_ble_eq_true rfl) (by decide) (fun _ _ hx => hx) h ?_
  intro r3 M1 h2
  refine z_icmp_ge (tgt := 53) dX12_sharedIn_9 (by decide) (fun g4 => ?_) (fun g4 => ?_)
  · have h5 := h2.1 g4
    refine z_iload_n dX12_sharedIn_53 rfl ?_
    exact z_iret dX12_sharedIn_54 rfl rfl (by decide) h5
  · have h6 := h2.2 g4
    refine z_iload_n dX12_sharedIn_12 rfl ?_
    refine z_aload_n dX12_sharedIn_13 rfl ?_
    refine z_iload_n dX12_sharedIn_14 rfl ?_
    refine z_aload_n dX12_sharedIn_15 rfl ?_
    refine z_getR dX12_sharedIn_16 zg_X12_58 zs_0 rfl ?_
    refine z_iload_n dX12_sharedIn_19 rfl ?_
    obtain ⟨g8, h7⟩ := h6
    refine z_iald dX12_sharedIn_20 zs_14 g8 ?_
    refine z_callVi (As := [.int y1, .int (M1.1 14 (y3).toNatClampNeg)]) (st := [.int y2]) dX12_sharedIn_21 zi_X12_451 rfl rfl zs_0 rfl rfl (Nat.le_of_ble_eq_true rfl) (by decide) (fun _ _ hx => hx) h7 ?_
    intro r11 M9 h10
    refine z_aload_n dX12_sharedIn_24 rfl ?_
    refine z_iload_n dX12_sharedIn_25 rfl ?_
    refine z_aload_n dX12_sharedIn_26 rfl ?_
    refine z_getR dX12_sharedIn_27 zg_X12_58 zs_0 rfl ?_
    refine z_iload_n dX12_sharedIn_30 rfl ?_
    refine z_iconst (v := (1 : Int32)) dX12_sharedIn_31 rfl ?_
    refine z_isub dX12_sharedIn_32 ?_
    obtain ⟨g13, h12⟩ := h10
    refine z_iald dX12_sharedIn_33 zs_14 g13 ?_
    refine z_callVi (As := [.int y1, .int (M9.1 14 ((y3 - (1 : Int32))).toNatClampNeg)]) (st := [.int r11, .int y2]) dX12_sharedIn_34 zi_X12_451 rfl rfl zs_0 rfl rfl (Nat.le_of_ble_eq_true rfl) (by decide) (fun _ _ hx => hx) h12 ?_
    intro r16 M14 h15
    refine z_icmp_eq (tgt := 44) dX12_sharedIn_37 (by decide) (fun g17 => ?_) (fun g17 => ?_)
    · have h18 := h15.1 g17
      refine z_iconst (v := (0 : Int32)) dX12_sharedIn_44 rfl ?_
      refine z_weak [true, true, false, true] (ls' := [.ref 0, .int y1, zU, .int y3]) rfl rfl ?_
      exact h18
    · have h19 := h15.2 g17
      refine z_iconst (v := (1 : Int32)) dX12_sharedIn_40 rfl ?_
      refine z_goto (tgt := 45) dX12_sharedIn_41 (by decide) ?_
      refine z_weak [true, true, false, true] (ls' := [.ref 0, .int y1, zU, .int y3]) rfl rfl ?_
      exact h19
theorem t_X12_sharedIn_45 {E : zEv} {D : Nat} {post : Int32 → zM → Prop} {px : String → zM → Prop} {M : zM}   {y1 : Int32} {y3 : Int32} {s0 : Int32} {s1 : Int32} (h : w_X12_sharedIn_4 E D post px y1 (s1 + s0) (y3 + (1 : Int32)) M) : w_X12_sharedIn_45 E D post px y1 y3 s0 s1 M := by
  show Z E jX12_sharedIn (D + 1) 0 (zQi post px) 45 0 [.ref 0, .int y1, zU, .int y3] [.int s0, .int s1] M
  refine z_iadd dX12_sharedIn_45 ?_
  refine z_istore_n dX12_sharedIn_46 (by decide) (ls' := [.ref 0, .int y1, .int (s1 + s0), .int y3]) rfl ?_
  refine z_iinc dX12_sharedIn_47 rfl (by decide) (ls' := [.ref 0, .int y1, .int (s1 + s0), .int (y3 + (1 : Int32))]) rfl ?_
  refine z_goto (tgt := 4) dX12_sharedIn_50 (by decide) ?_
  exact h
def w_X12_laysRow_2 (E : zEv) (D : Nat) (post : zM → Prop) (px : String → zM → Prop)  (y1 : Int32) (M : zM) : Prop := Z E jX12_laysRow (D + 1) 0 (zQv post px) 2 0 [.ref 0, .int y1] [] M
theorem e_X12_laysRow {E : zEv} {D : Nat} {post : zM → Prop} {px : String → zM → Prop} {M : zM}   (h : w_X12_laysRow_2 E D post px (0 : Int32) M) : zCv E jX12_laysRow (D + 1) 0 [.ref 0] M post px := by
  refine z_meth (by decide) (Nat.le_of_ble_eq_true rfl) ?_
  show Z E jX12_laysRow (D + 1) 0 (zQv post px) 0 0 [.ref 0, zU] [] M
  refine z_iconst (v := (0 : Int32)) dX12_laysRow_0 rfl ?_
  refine z_istore_n dX12_laysRow_1 (by decide) (ls' := [.ref 0, .int (0 : Int32)]) rfl ?_
  exact h
theorem t_X12_laysRow_2 {E : zEv} {D : Nat} {post : zM → Prop} {px : String → zM → Prop} {M : zM}   {y1 : Int32} (h : zCi E jX12_witnesses D 0 [.ref 0] M (fun r3 M1 => ((r3 ≤ y1 → post M1) ∧ (¬ r3 ≤ y1 → vp_in ((24 : Int32) + y1) 2070 ∧ vp_in y1 5 ∧ ∀ M11 : zM, M11 = zup M1 14 (y1).toNatClampNeg (M1.1 1 (((24 : Int32) + y1)).toNatClampNeg) → w_X12_laysRow_2 E D post px (y1 + (1 : Int32)) M11))) px) : w_X12_laysRow_2 E D post px y1 M := by
  show Z E jX12_laysRow (D + 1) 0 (zQv post px) 2 0 [.ref 0, .int y1] [] M
  refine z_iload_n dX12_laysRow_2 rfl ?_
  refine z_aload_n dX12_laysRow_3 rfl ?_
  refine z_callVi (As := []) (st := [.int y1]) dX12_laysRow_4 zi_X12_92 rfl rfl zs_0 rfl rfl (Nat.le_of_ble_eq_true rfl) (by decide) (fun _ _ hx => hx) h ?_
  intro r3 M1 h2
  refine z_icmp_ge (tgt := 31) dX12_laysRow_7 (by decide) (fun g4 => ?_) (fun g4 => ?_)
  · have h5 := h2.1 g4
    exact z_vret dX12_laysRow_31 rfl (by decide) h5
  · have h6 := h2.2 g4
    refine z_aload_n dX12_laysRow_10 rfl ?_
    refine z_getR dX12_laysRow_11 zg_X12_58 zs_0 rfl ?_
    refine z_iload_n dX12_laysRow_14 rfl ?_
    refine z_aload_n dX12_laysRow_15 rfl ?_
    refine z_getR dX12_laysRow_16 zg_X12_13 zs_0 rfl ?_
    refine z_bipush (v := (24 : Int32)) dX12_laysRow_19 rfl ?_
    refine z_iload_n dX12_laysRow_21 rfl ?_
    refine z_iadd dX12_laysRow_22 ?_
    obtain ⟨g8, h7⟩ := h6
    refine z_iald dX12_laysRow_23 zs_1 g8 ?_
    obtain ⟨g10, h9⟩ := h7
    refine z_iast dX12_laysRow_24 zs_14 g10 ?_
    generalize hhM11 : zup M1 14 (y1).toNatClampNeg (M1.1 1 (((24 : Int32) + y1)).toNatClampNeg) = M11
    have h12 := h9 M11 hhM11.symm
    refine z_iinc dX12_laysRow_25 rfl (by decide) (ls' := [.ref 0, .int (y1 + (1 : Int32))]) rfl ?_
    refine z_goto (tgt := 2) dX12_laysRow_28 (by decide) ?_
    exact h12
theorem e_X12_shared {E : zEv} {D : Nat} {post : Int32 → zM → Prop} {px : String → zM → Prop} {M : zM} {x1 : Int32}  (h : ∀ M1 : zM, M1 = zup M 0 0 (0 : Int32) → zCi E jX12_noQuestion D 0 [.ref 0, .int x1] M1 (fun r5 M3 => zCi E jX12_throwsIf D 0 [.ref 0, .int r5, .int (1 : Int32)] M3 (fun r8 M6 => ((r8 = 0 → zCv E jX12_laysRow D 0 [.ref 0] M6 (fun M12 => zCi E jX12_sharedIn D 0 [.ref 0, .int x1] M12 (fun r16 M14 => post r16 M14) px) px) ∧ (¬ r8 = 0 → post (0 : Int32) M6))) px) px) : zCi E jX12_shared (D + 1) 0 [.ref 0, .int x1] M post px := by
  refine z_meth (by decide) (Nat.le_of_ble_eq_true rfl) ?_
  show Z E jX12_shared (D + 1) 0 (zQi post px) 0 0 [.ref 0, .int x1] [] M
  refine z_aload_n dX12_shared_0 rfl ?_
  refine z_iconst (v := (0 : Int32)) dX12_shared_1 rfl ?_
  refine z_putI dX12_shared_2 zp_X12_3 zs_0 rfl rfl rfl ?_
  generalize hhM1 : zup M 0 0 (0 : Int32) = M1
  have h2 := h M1 hhM1.symm
  refine z_aload_n dX12_shared_5 rfl ?_
  refine z_aload_n dX12_shared_6 rfl ?_
  refine z_iload_n dX12_shared_7 rfl ?_
  refine z_callVi (As := [.int x1]) (st := [.ref 0]) dX12_shared_8 zi_X12_391 rfl rfl zs_0 rfl rfl (Nat.le_of_ble_eq_true rfl) (by decide) (fun _ _ hx => hx) h2 ?_
  intro r5 M3 h4
  refine z_iconst (v := (1 : Int32)) dX12_shared_11 rfl ?_
  refine z_callVi (As := [.int r5, .int (1 : Int32)]) (st := []) dX12_shared_12 zi_X12_282 rfl rfl zs_0 rfl rfl (Nat.le_of_ble_eq_true rfl) (by decide) (fun _ _ hx => hx) h4 ?_
  intro r8 M6 h7
  refine z_if_eq (tgt := 20) dX12_shared_15 (by decide) (fun g9 => ?_) (fun g9 => ?_)
  · have h10 := h7.1 g9
    refine z_aload_n dX12_shared_20 rfl ?_
    refine z_callVv (As := []) (st := []) dX12_shared_21 zi_X12_454 rfl rfl zs_0 rfl rfl (Nat.le_of_ble_eq_true rfl) (by decide) (fun _ _ hx => hx) h10 ?_
    intro M12 h13
    refine z_aload_n dX12_shared_24 rfl ?_
    refine z_iload_n dX12_shared_25 rfl ?_
    refine z_callVi (As := [.int x1]) (st := []) dX12_shared_26 zi_X12_457 rfl rfl zs_0 rfl rfl (Nat.le_of_ble_eq_true rfl) (by decide) (fun _ _ hx => hx) h13 ?_
    intro r16 M14 h15
    exact z_iret dX12_shared_29 rfl rfl (by decide) h15
  · have h11 := h7.2 g9
    refine z_iconst (v := (0 : Int32)) dX12_shared_18 rfl ?_
    exact z_iret dX12_shared_19 rfl rfl (by decide) h11
def w_X12_laysOrder_12 (E : zEv) (D : Nat) (post : Int32 → zM → Prop) (px : String → zM → Prop)  (y2 : Int32) (y3 : Int32) (y4 : Int32) (M : zM) : Prop := Z E jX12_laysOrder (D + 1) 0 (zQi post px) 12 0 [.ref 0, zU, .int y2, .int y3, .int y4] [] M
def w_X12_laysOrder_66 (E : zEv) (D : Nat) (post : Int32 → zM → Prop) (px : String → zM → Prop)  (s0 : Int32) (M : zM) : Prop := Z E jX12_laysOrder (D + 1) 0 (zQi post px) 66 0 [zU, zU, zU, zU, zU] [.int s0] M
theorem e_X12_laysOrder {E : zEv} {D : Nat} {post : Int32 → zM → Prop} {px : String → zM → Prop} {M : zM} {x1 : Int32}  (h : zCi E jX12_witnesses D 0 [.ref 0] M (fun r3 M1 => w_X12_laysOrder_12 E D post px x1 (0 : Int32) (r3 - (1 : Int32)) M1) px) : zCi E jX12_laysOrder (D + 1) 0 [.ref 0, .int x1] M post px := by
  refine z_meth (by decide) (Nat.le_of_ble_eq_true rfl) ?_
  show Z E jX12_laysOrder (D + 1) 0 (zQi post px) 0 0 [.ref 0, .int x1, zU, zU, zU] [] M
  refine z_iload_n dX12_laysOrder_0 rfl ?_
  refine z_istore_n dX12_laysOrder_1 (by decide) (ls' := [.ref 0, .int x1, .int x1, zU, zU]) rfl ?_
  refine z_iconst (v := (0 : Int32)) dX12_laysOrder_2 rfl ?_
  refine z_istore_n dX12_laysOrder_3 (by decide) (ls' := [.ref 0, .int x1, .int x1, .int (0 : Int32), zU]) rfl ?_
  refine z_aload_n dX12_laysOrder_4 rfl ?_
  refine z_callVi (As := []) (st := []) dX12_laysOrder_5 zi_X12_92 rfl rfl zs_0 rfl rfl (Nat.le_of_ble_eq_true rfl) (by decide) (fun _ _ hx => hx) h ?_
  intro r3 M1 h2
  refine z_iconst (v := (1 : Int32)) dX12_laysOrder_8 rfl ?_
  refine z_isub dX12_laysOrder_9 ?_
  refine z_istore dX12_laysOrder_10 (by decide) (ls' := [.ref 0, .int x1, .int x1, .int (0 : Int32), .int (r3 - (1 : Int32))]) rfl ?_
  refine z_weak [true, false, true, true, true] (ls' := [.ref 0, zU, .int x1, .int (0 : Int32), .int (r3 - (1 : Int32))]) rfl rfl ?_
  exact h2
theorem t_X12_laysOrder_12 {E : zEv} {D : Nat} {post : Int32 → zM → Prop} {px : String → zM → Prop} {M : zM}   {y2 : Int32} {y3 : Int32} {y4 : Int32} (h : ((y4 < 0 → zCi E jX12_witnesses D 0 [.ref 0] M (fun r6 M4 => ((¬ y3 = (((1 : Int32) <<< (r6 &&& 31)) - (1 : Int32)) → w_X12_laysOrder_66 E D post px (0 : Int32) M4) ∧ (y3 = (((1 : Int32) <<< (r6 &&& 31)) - (1 : Int32)) → w_X12_laysOrder_66 E D post px (1 : Int32) M4))) px) ∧ (¬ y4 < 0 → vp_in y4 5 ∧ ∀ M12 : zM, M12 = zup M 14 (y4).toNatClampNeg (zrem y2 (5 : Int32)) → vp_in y4 5 ∧ w_X12_laysOrder_12 E D post px (y2 / (5 : Int32)) (y3 ||| ((1 : Int32) <<< ((M12.1 14 (y4).toNatClampNeg) &&& 31))) (y4 + (-1 : Int32)) M12))) : w_X12_laysOrder_12 E D post px y2 y3 y4 M := by
  show Z E jX12_laysOrder (D + 1) 0 (zQi post px) 12 0 [.ref 0, zU, .int y2, .int y3, .int y4] [] M
  refine z_iload dX12_laysOrder_12 rfl ?_
  refine z_if_lt (tgt := 49) dX12_laysOrder_14 (by decide) (fun g1 => ?_) (fun g1 => ?_)
  · have h2 := h.1 g1
    refine z_iload_n dX12_laysOrder_49 rfl ?_
    refine z_iconst (v := (1 : Int32)) dX12_laysOrder_50 rfl ?_
    refine z_aload_n dX12_laysOrder_51 rfl ?_
    refine z_callVi (As := []) (st := [.int (1 : Int32), .int y3]) dX12_laysOrder_52 zi_X12_92 rfl rfl zs_0 rfl rfl (Nat.le_of_ble_eq_true rfl) (by decide) (fun _ _ hx => hx) h2 ?_
    intro r6 M4 h5
    refine z_ishl dX12_laysOrder_55 ?_
    refine z_iconst (v := (1 : Int32)) dX12_laysOrder_56 rfl ?_
    refine z_isub dX12_laysOrder_57 ?_
    refine z_icmp_ne (tgt := 65) dX12_laysOrder_58 (by decide) (fun g7 => ?_) (fun g7 => ?_)
    · have h8 := h5.1 g7
      refine z_iconst (v := (0 : Int32)) dX12_laysOrder_65 rfl ?_
      refine z_weak [false, false, false, false, false] (ls' := [zU, zU, zU, zU, zU]) rfl rfl ?_
      exact h8
    · have h9 := h5.2 g7
      refine z_iconst (v := (1 : Int32)) dX12_laysOrder_61 rfl ?_
      refine z_goto (tgt := 66) dX12_laysOrder_62 (by decide) ?_
      refine z_weak [false, false, false, false, false] (ls' := [zU, zU, zU, zU, zU]) rfl rfl ?_
      exact h9
  · have h3 := h.2 g1
    refine z_aload_n dX12_laysOrder_17 rfl ?_
    refine z_getR dX12_laysOrder_18 zg_X12_58 zs_0 rfl ?_
    refine z_iload dX12_laysOrder_21 rfl ?_
    refine z_iload_n dX12_laysOrder_23 rfl ?_
    refine z_iconst (v := (5 : Int32)) dX12_laysOrder_24 rfl ?_
    refine z_irem dX12_laysOrder_25 (by decide) ?_
    obtain ⟨g11, h10⟩ := h3
    refine z_iast dX12_laysOrder_26 zs_14 g11 ?_
    generalize hhM12 : zup M 14 (y4).toNatClampNeg (zrem y2 (5 : Int32)) = M12
    have h13 := h10 M12 hhM12.symm
    refine z_iload_n dX12_laysOrder_27 rfl ?_
    refine z_iconst (v := (5 : Int32)) dX12_laysOrder_28 rfl ?_
    refine z_idiv dX12_laysOrder_29 (by decide) ?_
    refine z_istore_n dX12_laysOrder_30 (by decide) (ls' := [.ref 0, zU, .int (y2 / (5 : Int32)), .int y3, .int y4]) rfl ?_
    refine z_iload_n dX12_laysOrder_31 rfl ?_
    refine z_iconst (v := (1 : Int32)) dX12_laysOrder_32 rfl ?_
    refine z_aload_n dX12_laysOrder_33 rfl ?_
    refine z_getR dX12_laysOrder_34 zg_X12_58 zs_0 rfl ?_
    refine z_iload dX12_laysOrder_37 rfl ?_
    obtain ⟨g15, h14⟩ := h13
    refine z_iald dX12_laysOrder_39 zs_14 g15 ?_
    refine z_ishl dX12_laysOrder_40 ?_
    refine z_ior dX12_laysOrder_41 ?_
    refine z_istore_n dX12_laysOrder_42 (by decide) (ls' := [.ref 0, zU, .int (y2 / (5 : Int32)), .int (y3 ||| ((1 : Int32) <<< ((M12.1 14 (y4).toNatClampNeg) &&& 31))), .int y4]) rfl ?_
    refine z_iinc dX12_laysOrder_43 rfl (by decide) (ls' := [.ref 0, zU, .int (y2 / (5 : Int32)), .int (y3 ||| ((1 : Int32) <<< ((M12.1 14 (y4).toNatClampNeg) &&& 31))), .int (y4 + (-1 : Int32))]) rfl ?_
    refine z_goto (tgt := 12) dX12_laysOrder_46 (by decide) ?_
    exact h14
theorem t_X12_laysOrder_66 {E : zEv} {D : Nat} {post : Int32 → zM → Prop} {px : String → zM → Prop} {M : zM}   {s0 : Int32} (h : (s0 = 0 ∨ s0 = 1) ∧ post s0 M) : w_X12_laysOrder_66 E D post px s0 M := by
  show Z E jX12_laysOrder (D + 1) 0 (zQi post px) 66 0 [zU, zU, zU, zU, zU] [.int s0] M
  obtain ⟨g2, h1⟩ := h
  exact z_iret dX12_laysOrder_66 rfl (zbool g2) (by decide) h1
def w_X12_changes_4 (E : zEv) (D : Nat) (post : Int32 → zM → Prop) (px : String → zM → Prop)  (y1 : Int32) (y2 : Int32) (M : zM) : Prop := Z E jX12_changes (D + 1) 0 (zQi post px) 4 0 [.ref 0, .int y1, .int y2, zU] [] M
def w_X12_changes_16 (E : zEv) (D : Nat) (post : Int32 → zM → Prop) (px : String → zM → Prop)  (y1 : Int32) (y2 : Int32) (y3 : Int32) (M : zM) : Prop := Z E jX12_changes (D + 1) 0 (zQi post px) 16 0 [.ref 0, .int y1, .int y2, .int y3] [] M
def w_X12_changes_55 (E : zEv) (D : Nat) (post : Int32 → zM → Prop) (px : String → zM → Prop)  (y2 : Int32) (y3 : Int32) (s0 : Int32) (s1 : Int32) (M : zM) : Prop := Z E jX12_changes (D + 1) 0 (zQi post px) 55 0 [.ref 0, zU, .int y2, .int y3] [.int s0, .int s1] M
theorem e_X12_changes {E : zEv} {D : Nat} {post : Int32 → zM → Prop} {px : String → zM → Prop} {M : zM}   (h : w_X12_changes_4 E D post px (0 : Int32) (0 : Int32) M) : zCi E jX12_changes (D + 1) 0 [.ref 0] M post px := by
  refine z_meth (by decide) (Nat.le_of_ble_eq_true rfl) ?_
  show Z E jX12_changes (D + 1) 0 (zQi post px) 0 0 [.ref 0, zU, zU, zU] [] M
  refine z_iconst (v := (0 : Int32)) dX12_changes_0 rfl ?_
  refine z_istore_n dX12_changes_1 (by decide) (ls' := [.ref 0, .int (0 : Int32), zU, zU]) rfl ?_
  refine z_iconst (v := (0 : Int32)) dX12_changes_2 rfl ?_
  refine z_istore_n dX12_changes_3 (by decide) (ls' := [.ref 0, .int (0 : Int32), .int (0 : Int32), zU]) rfl ?_
  exact h
theorem t_X12_changes_4 {E : zEv} {D : Nat} {post : Int32 → zM → Prop} {px : String → zM → Prop} {M : zM}   {y1 : Int32} {y2 : Int32} (h : zCi E jX12_witnesses D 0 [.ref 0] M (fun r3 M1 => ((r3 ≤ y2 → post y1 M1) ∧ (¬ r3 ≤ y2 → w_X12_changes_16 E D post px y1 y2 (y2 + (1 : Int32)) M1))) px) : w_X12_changes_4 E D post px y1 y2 M := by
  show Z E jX12_changes (D + 1) 0 (zQi post px) 4 0 [.ref 0, .int y1, .int y2, zU] [] M
  refine z_iload_n dX12_changes_4 rfl ?_
  refine z_aload_n dX12_changes_5 rfl ?_
  refine z_callVi (As := []) (st := [.int y2]) dX12_changes_6 zi_X12_92 rfl rfl zs_0 rfl rfl (Nat.le_of_ble_eq_true rfl) (by decide) (fun _ _ hx => hx) h ?_
  intro r3 M1 h2
  refine z_icmp_ge (tgt := 69) dX12_changes_9 (by decide) (fun g4 => ?_) (fun g4 => ?_)
  · have h5 := h2.1 g4
    refine z_iload_n dX12_changes_69 rfl ?_
    exact z_iret dX12_changes_70 rfl rfl (by decide) h5
  · have h6 := h2.2 g4
    refine z_iload_n dX12_changes_12 rfl ?_
    refine z_iconst (v := (1 : Int32)) dX12_changes_13 rfl ?_
    refine z_iadd dX12_changes_14 ?_
    refine z_istore_n dX12_changes_15 (by decide) (ls' := [.ref 0, .int y1, .int y2, .int (y2 + (1 : Int32))]) rfl ?_
    exact h6
theorem t_X12_changes_16 {E : zEv} {D : Nat} {post : Int32 → zM → Prop} {px : String → zM → Prop} {M : zM}   {y1 : Int32} {y2 : Int32} {y3 : Int32} (h : zCi E jX12_witnesses D 0 [.ref 0] M (fun r3 M1 => ((r3 ≤ y3 → w_X12_changes_4 E D post px y1 (y2 + (1 : Int32)) M1) ∧ (¬ r3 ≤ y3 → vp_in y2 5 ∧ zCi E jX12_of D 0 [.ref 0, .int (M1.1 14 (y2).toNatClampNeg), .int (4 : Int32)] M1 (fun r11 M9 => vp_in y3 5 ∧ zCi E jX12_of D 0 [.ref 0, .int (M9.1 14 (y3).toNatClampNeg), .int (4 : Int32)] M9 (fun r16 M14 => ((r11 ≤ r16 → w_X12_changes_55 E D post px y2 y3 (0 : Int32) y1 M14) ∧ (¬ r11 ≤ r16 → w_X12_changes_55 E D post px y2 y3 (1 : Int32) y1 M14))) px) px))) px) : w_X12_changes_16 E D post px y1 y2 y3 M := by
  show Z E jX12_changes (D + 1) 0 (zQi post px) 16 0 [.ref 0, .int y1, .int y2, .int y3] [] M
  refine z_iload_n dX12_changes_16 rfl ?_
  refine z_aload_n dX12_changes_17 rfl ?_
  refine z_callVi (As := []) (st := [.int y3]) dX12_changes_18 zi_X12_92 rfl rfl zs_0 rfl rfl (Nat.le_of_ble_eq_true rfl) (by decide) (fun _ _ hx => hx) h ?_
  intro r3 M1 h2
  refine z_icmp_ge (tgt := 63) dX12_changes_21 (by decide) (fun g4 => ?_) (fun g4 => ?_)
  · have h5 := h2.1 g4
    refine z_iinc dX12_changes_63 rfl (by decide) (ls' := [.ref 0, .int y1, .int (y2 + (1 : Int32)), .int y3]) rfl ?_
    refine z_goto (tgt := 4) dX12_changes_66 (by decide) ?_
    refine z_weak [true, true, true, false] (ls' := [.ref 0, .int y1, .int (y2 + (1 : Int32)), zU]) rfl rfl ?_
    exact h5
  · have h6 := h2.2 g4
    refine z_iload_n dX12_changes_24 rfl ?_
    refine z_aload_n dX12_changes_25 rfl ?_
    refine z_aload_n dX12_changes_26 rfl ?_
    refine z_getR dX12_changes_27 zg_X12_58 zs_0 rfl ?_
    refine z_iload_n dX12_changes_30 rfl ?_
    obtain ⟨g8, h7⟩ := h6
    refine z_iald dX12_changes_31 zs_14 g8 ?_
    refine z_iconst (v := (4 : Int32)) dX12_changes_32 rfl ?_
    refine z_callVi (As := [.int (M1.1 14 (y2).toNatClampNeg), .int (4 : Int32)]) (st := [.int y1]) dX12_changes_33 zi_X12_285 rfl rfl zs_0 rfl rfl (Nat.le_of_ble_eq_true rfl) (by decide) (fun _ _ hx => hx) h7 ?_
    intro r11 M9 h10
    refine z_aload_n dX12_changes_36 rfl ?_
    refine z_aload_n dX12_changes_37 rfl ?_
    refine z_getR dX12_changes_38 zg_X12_58 zs_0 rfl ?_
    refine z_iload_n dX12_changes_41 rfl ?_
    obtain ⟨g13, h12⟩ := h10
    refine z_iald dX12_changes_42 zs_14 g13 ?_
    refine z_iconst (v := (4 : Int32)) dX12_changes_43 rfl ?_
    refine z_callVi (As := [.int (M9.1 14 (y3).toNatClampNeg), .int (4 : Int32)]) (st := [.int r11, .int y1]) dX12_changes_44 zi_X12_285 rfl rfl zs_0 rfl rfl (Nat.le_of_ble_eq_true rfl) (by decide) (fun _ _ hx => hx) h12 ?_
    intro r16 M14 h15
    refine z_icmp_le (tgt := 54) dX12_changes_47 (by decide) (fun g17 => ?_) (fun g17 => ?_)
    · have h18 := h15.1 g17
      refine z_iconst (v := (0 : Int32)) dX12_changes_54 rfl ?_
      refine z_weak [true, false, true, true] (ls' := [.ref 0, zU, .int y2, .int y3]) rfl rfl ?_
      exact h18
    · have h19 := h15.2 g17
      refine z_iconst (v := (1 : Int32)) dX12_changes_50 rfl ?_
      refine z_goto (tgt := 55) dX12_changes_51 (by decide) ?_
      refine z_weak [true, false, true, true] (ls' := [.ref 0, zU, .int y2, .int y3]) rfl rfl ?_
      exact h19
theorem t_X12_changes_55 {E : zEv} {D : Nat} {post : Int32 → zM → Prop} {px : String → zM → Prop} {M : zM}   {y2 : Int32} {y3 : Int32} {s0 : Int32} {s1 : Int32} (h : w_X12_changes_16 E D post px (s1 + s0) y2 (y3 + (1 : Int32)) M) : w_X12_changes_55 E D post px y2 y3 s0 s1 M := by
  show Z E jX12_changes (D + 1) 0 (zQi post px) 55 0 [.ref 0, zU, .int y2, .int y3] [.int s0, .int s1] M
  refine z_iadd dX12_changes_55 ?_
  refine z_istore_n dX12_changes_56 (by decide) (ls' := [.ref 0, .int (s1 + s0), .int y2, .int y3]) rfl ?_
  refine z_iinc dX12_changes_57 rfl (by decide) (ls' := [.ref 0, .int (s1 + s0), .int y2, .int (y3 + (1 : Int32))]) rfl ?_
  refine z_goto (tgt := 16) dX12_changes_60 (by decide) ?_
  exact h
def w_X12_bestRow_4 (E : zEv) (D : Nat) (post : Int32 → zM → Prop) (px : String → zM → Prop)  (y1 : Int32) (y2 : Int32) (y3 : Int32) (M : zM) : Prop := Z E jX12_bestRow (D + 1) 0 (zQi post px) 4 0 [.ref 0, .int y1, .int y2, .int y3, zU, zU, zU, zU, zU] [] M
def w_X12_bestRow_34 (E : zEv) (D : Nat) (post : Int32 → zM → Prop) (px : String → zM → Prop)  (y1 : Int32) (y2 : Int32) (y3 : Int32) (y4 : Int32) (y5 : Int32) (M : zM) : Prop := Z E jX12_bestRow (D + 1) 0 (zQi post px) 34 0 [.ref 0, .int y1, .int y2, .int y3, .int y4, .int y5, zU, zU, zU] [] M
def w_X12_bestRow_126 (E : zEv) (D : Nat) (post : Int32 → zM → Prop) (px : String → zM → Prop)  (y1 : Int32) (y2 : Int32) (y3 : Int32) (y4 : Int32) (y5 : Int32) (M : zM) : Prop := Z E jX12_bestRow (D + 1) 0 (zQi post px) 126 0 [.ref 0, .int y1, .int y2, .int y3, .int y4, .int y5, zU, zU, zU] [] M
def w_X12_bestRow_87 (E : zEv) (D : Nat) (post : Int32 → zM → Prop) (px : String → zM → Prop)  (y1 : Int32) (y2 : Int32) (y5 : Int32) (y6 : Int32) (y7 : Int32) (M : zM) : Prop := Z E jX12_bestRow (D + 1) 0 (zQi post px) 87 0 [.ref 0, .int y1, .int y2, zU, zU, .int y5, .int y6, .int y7, zU] [] M
def w_X12_bestRow_90 (E : zEv) (D : Nat) (post : Int32 → zM → Prop) (px : String → zM → Prop)  (y1 : Int32) (y2 : Int32) (y5 : Int32) (y6 : Int32) (y7 : Int32) (y8 : Int32) (M : zM) : Prop := Z E jX12_bestRow (D + 1) 0 (zQi post px) 90 0 [.ref 0, .int y1, .int y2, zU, zU, .int y5, .int y6, .int y7, .int y8] [] M
theorem e_X12_bestRow {E : zEv} {D : Nat} {post : Int32 → zM → Prop} {px : String → zM → Prop} {M : zM} {x1 : Int32}  (h : w_X12_bestRow_4 E D post px x1 (1 : Int32) (0 : Int32) M) : zCi E jX12_bestRow (D + 1) 0 [.ref 0, .int x1] M post px := by
  refine z_meth (by decide) (Nat.le_of_ble_eq_true rfl) ?_
  show Z E jX12_bestRow (D + 1) 0 (zQi post px) 0 0 [.ref 0, .int x1, zU, zU, zU, zU, zU, zU, zU] [] M
  refine z_iconst (v := (1 : Int32)) dX12_bestRow_0 rfl ?_
  refine z_istore_n dX12_bestRow_1 (by decide) (ls' := [.ref 0, .int x1, .int (1 : Int32), zU, zU, zU, zU, zU, zU]) rfl ?_
  refine z_iconst (v := (0 : Int32)) dX12_bestRow_2 rfl ?_
  refine z_istore_n dX12_bestRow_3 (by decide) (ls' := [.ref 0, .int x1, .int (1 : Int32), .int (0 : Int32), zU, zU, zU, zU, zU]) rfl ?_
  exact h
theorem t_X12_bestRow_4 {E : zEv} {D : Nat} {post : Int32 → zM → Prop} {px : String → zM → Prop} {M : zM}   {y1 : Int32} {y2 : Int32} {y3 : Int32} (h : zCi E jX12_witnesses D 0 [.ref 0] M (fun r3 M1 => ((r3 ≤ y3 → w_X12_bestRow_34 E D post px y1 y2 (1000000 : Int32) (1000000 : Int32) (0 : Int32) M1) ∧ (¬ r3 ≤ y3 → w_X12_bestRow_4 E D post px y1 (y2 * (5 : Int32)) (y3 + (1 : Int32)) M1))) px) : w_X12_bestRow_4 E D post px y1 y2 y3 M := by
  show Z E jX12_bestRow (D + 1) 0 (zQi post px) 4 0 [.ref 0, .int y1, .int y2, .int y3, zU, zU, zU, zU, zU] [] M
  refine z_iload_n dX12_bestRow_4 rfl ?_
  refine z_aload_n dX12_bestRow_5 rfl ?_
  refine z_callVi (As := []) (st := [.int y3]) dX12_bestRow_6 zi_X12_92 rfl rfl zs_0 rfl rfl (Nat.le_of_ble_eq_true rfl) (by decide) (fun _ _ hx => hx) h ?_
  intro r3 M1 h2
  refine z_icmp_ge (tgt := 22) dX12_bestRow_9 (by decide) (fun g4 => ?_) (fun g4 => ?_)
  · have h5 := h2.1 g4
    refine z_ldcw (v := (1000000 : Int32)) dX12_bestRow_22 zw_2048 ?_
    refine z_istore_n dX12_bestRow_25 (by decide) (ls' := [.ref 0, .int y1, .int y2, .int (1000000 : Int32), zU, zU, zU, zU, zU]) rfl ?_
    refine z_ldcw (v := (1000000 : Int32)) dX12_bestRow_26 zw_2048 ?_
    refine z_istore dX12_bestRow_29 (by decide) (ls' := [.ref 0, .int y1, .int y2, .int (1000000 : Int32), .int (1000000 : Int32), zU, zU, zU, zU]) rfl ?_
    refine z_iconst (v := (0 : Int32)) dX12_bestRow_31 rfl ?_
    refine z_istore dX12_bestRow_32 (by decide) (ls' := [.ref 0, .int y1, .int y2, .int (1000000 : Int32), .int (1000000 : Int32), .int (0 : Int32), zU, zU, zU]) rfl ?_
    exact h5
  · have h6 := h2.2 g4
    refine z_iload_n dX12_bestRow_12 rfl ?_
    refine z_iconst (v := (5 : Int32)) dX12_bestRow_13 rfl ?_
    refine z_imul dX12_bestRow_14 ?_
    refine z_istore_n dX12_bestRow_15 (by decide) (ls' := [.ref 0, .int y1, .int (y2 * (5 : Int32)), .int y3, zU, zU, zU, zU, zU]) rfl ?_
    refine z_iinc dX12_bestRow_16 rfl (by decide) (ls' := [.ref 0, .int y1, .int (y2 * (5 : Int32)), .int (y3 + (1 : Int32)), zU, zU, zU, zU, zU]) rfl ?_
    refine z_goto (tgt := 4) dX12_bestRow_19 (by decide) ?_
    exact h6
theorem t_X12_bestRow_34 {E : zEv} {D : Nat} {post : Int32 → zM → Prop} {px : String → zM → Prop} {M : zM}   {y1 : Int32} {y2 : Int32} {y3 : Int32} {y4 : Int32} {y5 : Int32} (h : ((y2 ≤ y5 → post y4 M) ∧ (¬ y2 ≤ y5 → zCi E jX12_laysOrder D 0 [.ref 0, .int y5] M (fun r6 M4 => ((¬ r6 = 0 → zCi E jX12_sharedIn D 0 [.ref 0, .int y1] M4 (fun r12 M10 => zCi E jX12_changes D 0 [.ref 0] M10 (fun r15 M13 => ((y3 < r12 → w_X12_bestRow_126 E D post px y1 y2 y3 y4 y5 M13) ∧ (¬ y3 < r12 → ((¬ r12 = y3 → w_X12_bestRow_87 E D post px y1 y2 y5 r12 r15 M13) ∧ (r12 = y3 → ((r15 < y4 → w_X12_bestRow_87 E D post px y1 y2 y5 r12 r15 M13) ∧ (¬ r15 < y4 → w_X12_bestRow_126 E D post px y1 y2 y3 y4 y5 M13))))))) px) px) ∧ (r6 = 0 → w_X12_bestRow_126 E D post px y1 y2 y3 y4 y5 M4))) px))) : w_X12_bestRow_34 E D post px y1 y2 y3 y4 y5 M := by
  show Z E jX12_bestRow (D + 1) 0 (zQi post px) 34 0 [.ref 0, .int y1, .int y2, .int y3, .int y4, .int y5, zU, zU, zU] [] M
  refine z_iload dX12_bestRow_34 rfl ?_
  refine z_iload_n dX12_bestRow_36 rfl ?_
  refine z_icmp_ge (tgt := 132) dX12_bestRow_37 (by decide) (fun g1 => ?_) (fun g1 => ?_)
  · have h2 := h.1 g1
    refine z_iload dX12_bestRow_132 rfl ?_
    exact z_iret dX12_bestRow_134 rfl rfl (by decide) h2
  · have h3 := h.2 g1
    refine z_aload_n dX12_bestRow_40 rfl ?_
    refine z_iload dX12_bestRow_41 rfl ?_
    refine z_callVi (As := [.int y5]) (st := []) dX12_bestRow_43 zi_X12_460 rfl rfl zs_0 rfl rfl (Nat.le_of_ble_eq_true rfl) (by decide) (fun _ _ hx => hx) h3 ?_
    intro r6 M4 h5
    refine z_if_ne (tgt := 52) dX12_bestRow_46 (by decide) (fun g7 => ?_) (fun g7 => ?_)
    · have h8 := h5.1 g7
      refine z_aload_n dX12_bestRow_52 rfl ?_
      refine z_iload_n dX12_bestRow_53 rfl ?_
      refine z_callVi (As := [.int y1]) (st := []) dX12_bestRow_54 zi_X12_457 rfl rfl zs_0 rfl rfl (Nat.le_of_ble_eq_true rfl) (by decide) (fun _ _ hx => hx) h8 ?_
      intro r12 M10 h11
      refine z_istore dX12_bestRow_57 (by decide) (ls' := [.ref 0, .int y1, .int y2, .int y3, .int y4, .int y5, .int r12, zU, zU]) rfl ?_
      refine z_aload_n dX12_bestRow_59 rfl ?_
      refine z_callVi (As := []) (st := []) dX12_bestRow_60 zi_X12_463 rfl rfl zs_0 rfl rfl (Nat.le_of_ble_eq_true rfl) (by decide) (fun _ _ hx => hx) h11 ?_
      intro r15 M13 h14
      refine z_istore dX12_bestRow_63 (by decide) (ls' := [.ref 0, .int y1, .int y2, .int y3, .int y4, .int y5, .int r12, .int r15, zU]) rfl ?_
      refine z_iload dX12_bestRow_65 rfl ?_
      refine z_iload_n dX12_bestRow_67 rfl ?_
      refine z_icmp_gt (tgt := 126) dX12_bestRow_68 (by decide) (fun g16 => ?_) (fun g16 => ?_)
      · have h17 := h14.1 g16
        refine z_weak [true, true, true, true, true, true, false, false, false] (ls' := [.ref 0, .int y1, .int y2, .int y3, .int y4, .int y5, zU, zU, zU]) rfl rfl ?_
        exact h17
      · have h18 := h14.2 g16
        refine z_iload dX12_bestRow_71 rfl ?_
        refine z_iload_n dX12_bestRow_73 rfl ?_
        refine z_icmp_ne (tgt := 87) dX12_bestRow_74 (by decide) (fun g19 => ?_) (fun g19 => ?_)
        · have h20 := h18.1 g19
          refine z_weak [true, true, true, false, false, true, true, true, false] (ls' := [.ref 0, .int y1, .int y2, zU, zU, .int y5, .int r12, .int r15, zU]) rfl rfl ?_
          exact h20
        · have h21 := h18.2 g19
          refine z_iload dX12_bestRow_77 rfl ?_
          refine z_iload dX12_bestRow_79 rfl ?_
          refine z_icmp_lt (tgt := 87) dX12_bestRow_81 (by decide) (fun g22 => ?_) (fun g22 => ?_)
          · have h23 := h21.1 g22
            refine z_weak [true, true, true, false, false, true, true, true, false] (ls' := [.ref 0, .int y1, .int y2, zU, zU, .int y5, .int r12, .int r15, zU]) rfl rfl ?_
            exact h23
          · have h24 := h21.2 g22
            refine z_goto (tgt := 126) dX12_bestRow_84 (by decide) ?_
            refine z_weak [true, true, true, true, true, true, false, false, false] (ls' := [.ref 0, .int y1, .int y2, .int y3, .int y4, .int y5, zU, zU, zU]) rfl rfl ?_
            exact h24
    · have h9 := h5.2 g7
      refine z_goto (tgt := 126) dX12_bestRow_49 (by decide) ?_
      exact h9
theorem t_X12_bestRow_126 {E : zEv} {D : Nat} {post : Int32 → zM → Prop} {px : String → zM → Prop} {M : zM}   {y1 : Int32} {y2 : Int32} {y3 : Int32} {y4 : Int32} {y5 : Int32} (h : w_X12_bestRow_34 E D post px y1 y2 y3 y4 (y5 + (1 : Int32)) M) : w_X12_bestRow_126 E D post px y1 y2 y3 y4 y5 M := by
  show Z E jX12_bestRow (D + 1) 0 (zQi post px) 126 0 [.ref 0, .int y1, .int y2, .int y3, .int y4, .int y5, zU, zU, zU] [] M
  refine z_iinc dX12_bestRow_126 rfl (by decide) (ls' := [.ref 0, .int y1, .int y2, .int y3, .int y4, .int (y5 + (1 : Int32)), zU, zU, zU]) rfl ?_
  refine z_goto (tgt := 34) dX12_bestRow_129 (by decide) ?_
  exact h
theorem t_X12_bestRow_87 {E : zEv} {D : Nat} {post : Int32 → zM → Prop} {px : String → zM → Prop} {M : zM}   {y1 : Int32} {y2 : Int32} {y5 : Int32} {y6 : Int32} {y7 : Int32} (h : w_X12_bestRow_90 E D post px y1 y2 y5 y6 y7 (0 : Int32) M) : w_X12_bestRow_87 E D post px y1 y2 y5 y6 y7 M := by
  show Z E jX12_bestRow (D + 1) 0 (zQi post px) 87 0 [.ref 0, .int y1, .int y2, zU, zU, .int y5, .int y6, .int y7, zU] [] M
  refine z_iconst (v := (0 : Int32)) dX12_bestRow_87 rfl ?_
  refine z_istore dX12_bestRow_88 (by decide) (ls' := [.ref 0, .int y1, .int y2, zU, zU, .int y5, .int y6, .int y7, .int (0 : Int32)]) rfl ?_
  exact h
theorem t_X12_bestRow_90 {E : zEv} {D : Nat} {post : Int32 → zM → Prop} {px : String → zM → Prop} {M : zM}   {y1 : Int32} {y2 : Int32} {y5 : Int32} {y6 : Int32} {y7 : Int32} {y8 : Int32} (h : zCi E jX12_witnesses D 0 [.ref 0] M (fun r3 M1 => ((r3 ≤ y8 → w_X12_bestRow_126 E D post px y1 y2 y6 y7 y5 M1) ∧ (¬ r3 ≤ y8 → vp_in y8 5 ∧ vp_in y8 5 ∧ ∀ M11 : zM, M11 = zup M1 15 (y8).toNatClampNeg (M1.1 14 (y8).toNatClampNeg) → w_X12_bestRow_90 E D post px y1 y2 y5 y6 y7 (y8 + (1 : Int32)) M11))) px) : w_X12_bestRow_90 E D post px y1 y2 y5 y6 y7 y8 M := by
  show Z E jX12_bestRow (D + 1) 0 (zQi post px) 90 0 [.ref 0, .int y1, .int y2, zU, zU, .int y5, .int y6, .int y7, .int y8] [] M
  refine z_iload dX12_bestRow_90 rfl ?_
  refine z_aload_n dX12_bestRow_92 rfl ?_
  refine z_callVi (As := []) (st := [.int y8]) dX12_bestRow_93 zi_X12_92 rfl rfl zs_0 rfl rfl (Nat.le_of_ble_eq_true rfl) (by decide) (fun _ _ hx => hx) h ?_
  intro r3 M1 h2
  refine z_icmp_ge (tgt := 119) dX12_bestRow_96 (by decide) (fun g4 => ?_) (fun g4 => ?_)
  · have h5 := h2.1 g4
    refine z_iload dX12_bestRow_119 rfl ?_
    refine z_istore_n dX12_bestRow_121 (by decide) (ls' := [.ref 0, .int y1, .int y2, .int y6, zU, .int y5, .int y6, .int y7, .int y8]) rfl ?_
    refine z_iload dX12_bestRow_122 rfl ?_
    refine z_istore dX12_bestRow_124 (by decide) (ls' := [.ref 0, .int y1, .int y2, .int y6, .int y7, .int y5, .int y6, .int y7, .int y8]) rfl ?_
    refine z_weak [true, true, true, true, true, true, false, false, false] (ls' := [.ref 0, .int y1, .int y2, .int y6, .int y7, .int y5, zU, zU, zU]) rfl rfl ?_
    exact h5
  · have h6 := h2.2 g4
    refine z_aload_n dX12_bestRow_99 rfl ?_
    refine z_getR dX12_bestRow_100 zg_X12_61 zs_0 rfl ?_
    refine z_iload dX12_bestRow_103 rfl ?_
    refine z_aload_n dX12_bestRow_105 rfl ?_
    refine z_getR dX12_bestRow_106 zg_X12_58 zs_0 rfl ?_
    refine z_iload dX12_bestRow_109 rfl ?_
    obtain ⟨g8, h7⟩ := h6
    refine z_iald dX12_bestRow_111 zs_14 g8 ?_
    obtain ⟨g10, h9⟩ := h7
    refine z_iast dX12_bestRow_112 zs_15 g10 ?_
    generalize hhM11 : zup M1 15 (y8).toNatClampNeg (M1.1 14 (y8).toNatClampNeg) = M11
    have h12 := h9 M11 hhM11.symm
    refine z_iinc dX12_bestRow_113 rfl (by decide) (ls' := [.ref 0, .int y1, .int y2, zU, zU, .int y5, .int y6, .int y7, .int (y8 + (1 : Int32))]) rfl ?_
    refine z_goto (tgt := 90) dX12_bestRow_116 (by decide) ?_
    exact h12
def w_X12_apart_27 (E : zEv) (D : Nat) (post : Int32 → zM → Prop) (px : String → zM → Prop)  (s0 : Int32) (M : zM) : Prop := Z E jX12_apart (D + 1) 0 (zQi post px) 27 0 [zU, zU] [.int s0] M
theorem e_X12_apart {E : zEv} {D : Nat} {post : Int32 → zM → Prop} {px : String → zM → Prop} {M : zM} {x1 : Int32}  (h : ∀ M1 : zM, M1 = zup M 0 0 (0 : Int32) → zCi E jX12_noQuestion D 0 [.ref 0, .int x1] M1 (fun r5 M3 => zCi E jX12_throwsIf D 0 [.ref 0, .int r5, .int (1 : Int32)] M3 (fun r8 M6 => ((r8 = 0 → zCi E jX12_bestRow D 0 [.ref 0, .int x1] M6 (fun r14 M12 => w_X12_apart_27 E D post px r14 M12) px) ∧ (¬ r8 = 0 → w_X12_apart_27 E D post px (0 : Int32) M6))) px) px) : zCi E jX12_apart (D + 1) 0 [.ref 0, .int x1] M post px := by
  refine z_meth (by decide) (Nat.le_of_ble_eq_true rfl) ?_
  show Z E jX12_apart (D + 1) 0 (zQi post px) 0 0 [.ref 0, .int x1] [] M
  refine z_aload_n dX12_apart_0 rfl ?_
  refine z_iconst (v := (0 : Int32)) dX12_apart_1 rfl ?_
  refine z_putI dX12_apart_2 zp_X12_3 zs_0 rfl rfl rfl ?_
  generalize hhM1 : zup M 0 0 (0 : Int32) = M1
  have h2 := h M1 hhM1.symm
  refine z_aload_n dX12_apart_5 rfl ?_
  refine z_aload_n dX12_apart_6 rfl ?_
  refine z_iload_n dX12_apart_7 rfl ?_
  refine z_callVi (As := [.int x1]) (st := [.ref 0]) dX12_apart_8 zi_X12_391 rfl rfl zs_0 rfl rfl (Nat.le_of_ble_eq_true rfl) (by decide) (fun _ _ hx => hx) h2 ?_
  intro r5 M3 h4
  refine z_iconst (v := (1 : Int32)) dX12_apart_11 rfl ?_
  refine z_callVi (As := [.int r5, .int (1 : Int32)]) (st := []) dX12_apart_12 zi_X12_282 rfl rfl zs_0 rfl rfl (Nat.le_of_ble_eq_true rfl) (by decide) (fun _ _ hx => hx) h4 ?_
  intro r8 M6 h7
  refine z_if_eq (tgt := 22) dX12_apart_15 (by decide) (fun g9 => ?_) (fun g9 => ?_)
  · have h10 := h7.1 g9
    refine z_aload_n dX12_apart_22 rfl ?_
    refine z_iload_n dX12_apart_23 rfl ?_
    refine z_callVi (As := [.int x1]) (st := []) dX12_apart_24 zi_X12_466 rfl rfl zs_0 rfl rfl (Nat.le_of_ble_eq_true rfl) (by decide) (fun _ _ hx => hx) h10 ?_
    intro r14 M12 h13
    refine z_weak [false, false] (ls' := [zU, zU]) rfl rfl ?_
    exact h13
  · have h11 := h7.2 g9
    refine z_iconst (v := (0 : Int32)) dX12_apart_18 rfl ?_
    refine z_goto (tgt := 27) dX12_apart_19 (by decide) ?_
    refine z_weak [false, false] (ls' := [zU, zU]) rfl rfl ?_
    exact h11
theorem t_X12_apart_27 {E : zEv} {D : Nat} {post : Int32 → zM → Prop} {px : String → zM → Prop} {M : zM}   {s0 : Int32} (h : post s0 M) : w_X12_apart_27 E D post px s0 M := by
  show Z E jX12_apart (D + 1) 0 (zQi post px) 27 0 [zU, zU] [.int s0] M
  exact z_iret dX12_apart_27 rfl rfl (by decide) h
def w_X12_row_22 (E : zEv) (D : Nat) (post : Int32 → zM → Prop) (px : String → zM → Prop)  (y1 : Int32) (y2 : Int32) (M : zM) : Prop := Z E jX12_row (D + 1) 0 (zQi post px) 22 0 [.ref 0, .int y1, .int y2] [.ref 0] M
def w_X12_row_27 (E : zEv) (D : Nat) (post : Int32 → zM → Prop) (px : String → zM → Prop)  (y1 : Int32) (y2 : Int32) (s0 : Int32) (M : zM) : Prop := Z E jX12_row (D + 1) 0 (zQi post px) 27 0 [.ref 0, .int y1, .int y2] [.int s0, .ref 0] M
theorem e_X12_row {E : zEv} {D : Nat} {post : Int32 → zM → Prop} {px : String → zM → Prop} {M : zM} {x1 : Int32} {x2 : Int32}  (h : ∀ M1 : zM, M1 = zup M 0 0 (0 : Int32) → zCi E jX12_noQuestion D 0 [.ref 0, .int x1] M1 (fun r5 M3 => ((¬ r5 = 0 → w_X12_row_22 E D post px x1 x2 M3) ∧ (r5 = 0 → zCi E jX12_noWitness D 0 [.ref 0, .int x2] M3 (fun r11 M9 => ((r11 = 0 → w_X12_row_27 E D post px x1 x2 (0 : Int32) M9) ∧ (¬ r11 = 0 → w_X12_row_22 E D post px x1 x2 M9))) px))) px) : zCi E jX12_row (D + 1) 0 [.ref 0, .int x1, .int x2] M post px := by
  refine z_meth (by decide) (Nat.le_of_ble_eq_true rfl) ?_
  show Z E jX12_row (D + 1) 0 (zQi post px) 0 0 [.ref 0, .int x1, .int x2] [] M
  refine z_aload_n dX12_row_0 rfl ?_
  refine z_iconst (v := (0 : Int32)) dX12_row_1 rfl ?_
  refine z_putI dX12_row_2 zp_X12_3 zs_0 rfl rfl rfl ?_
  generalize hhM1 : zup M 0 0 (0 : Int32) = M1
  have h2 := h M1 hhM1.symm
  refine z_aload_n dX12_row_5 rfl ?_
  refine z_aload_n dX12_row_6 rfl ?_
  refine z_iload_n dX12_row_7 rfl ?_
  refine z_callVi (As := [.int x1]) (st := [.ref 0]) dX12_row_8 zi_X12_391 rfl rfl zs_0 rfl rfl (Nat.le_of_ble_eq_true rfl) (by decide) (fun _ _ hx => hx) h2 ?_
  intro r5 M3 h4
  refine z_if_ne (tgt := 22) dX12_row_11 (by decide) (fun g6 => ?_) (fun g6 => ?_)
  · have h7 := h4.1 g6
    exact h7
  · have h8 := h4.2 g6
    refine z_aload_n dX12_row_14 rfl ?_
    refine z_iload_n dX12_row_15 rfl ?_
    refine z_callVi (As := [.int x2]) (st := [.ref 0]) dX12_row_16 zi_X12_370 rfl rfl zs_0 rfl rfl (Nat.le_of_ble_eq_true rfl) (by decide) (fun _ _ hx => hx) h8 ?_
    intro r11 M9 h10
    refine z_if_eq (tgt := 26) dX12_row_19 (by decide) (fun g12 => ?_) (fun g12 => ?_)
    · have h13 := h10.1 g12
      refine z_iconst (v := (0 : Int32)) dX12_row_26 rfl ?_
      exact h13
    · have h14 := h10.2 g12
      exact h14
theorem t_X12_row_22 {E : zEv} {D : Nat} {post : Int32 → zM → Prop} {px : String → zM → Prop} {M : zM}   {y1 : Int32} {y2 : Int32} (h : w_X12_row_27 E D post px y1 y2 (1 : Int32) M) : w_X12_row_22 E D post px y1 y2 M := by
  show Z E jX12_row (D + 1) 0 (zQi post px) 22 0 [.ref 0, .int y1, .int y2] [.ref 0] M
  refine z_iconst (v := (1 : Int32)) dX12_row_22 rfl ?_
  refine z_goto (tgt := 27) dX12_row_23 (by decide) ?_
  exact h
theorem t_X12_row_27 {E : zEv} {D : Nat} {post : Int32 → zM → Prop} {px : String → zM → Prop} {M : zM}   {y1 : Int32} {y2 : Int32} {s0 : Int32} (h : zCi E jX12_throwsIf D 0 [.ref 0, .int s0, .int (1 : Int32)] M (fun r3 M1 => ((r3 = 0 → zCi E jX12_bestRow D 0 [.ref 0, .int y1] M1 (fun r9 M7 => vp_in y2 5 ∧ post (M7.1 15 (y2).toNatClampNeg) M7) px) ∧ (¬ r3 = 0 → post (0 : Int32) M1))) px) : w_X12_row_27 E D post px y1 y2 s0 M := by
  show Z E jX12_row (D + 1) 0 (zQi post px) 27 0 [.ref 0, .int y1, .int y2] [.int s0, .ref 0] M
  refine z_iconst (v := (1 : Int32)) dX12_row_27 rfl ?_
  refine z_callVi (As := [.int s0, .int (1 : Int32)]) (st := []) dX12_row_28 zi_X12_282 rfl rfl zs_0 rfl rfl (Nat.le_of_ble_eq_true rfl) (by decide) (fun _ _ hx => hx) h ?_
  intro r3 M1 h2
  refine z_if_eq (tgt := 36) dX12_row_31 (by decide) (fun g4 => ?_) (fun g4 => ?_)
  · have h5 := h2.1 g4
    refine z_aload_n dX12_row_36 rfl ?_
    refine z_iload_n dX12_row_37 rfl ?_
    refine z_callVi (As := [.int y1]) (st := []) dX12_row_38 zi_X12_466 rfl rfl zs_0 rfl rfl (Nat.le_of_ble_eq_true rfl) (by decide) (fun _ _ hx => hx) h5 ?_
    intro r9 M7 h8
    refine z_pop dX12_row_41 rfl ?_
    refine z_aload_n dX12_row_42 rfl ?_
    refine z_getR dX12_row_43 zg_X12_61 zs_0 rfl ?_
    refine z_iload_n dX12_row_46 rfl ?_
    obtain ⟨g11, h10⟩ := h8
    refine z_iald dX12_row_47 zs_15 g11 ?_
    exact z_iret dX12_row_48 rfl rfl (by decide) h10
  · have h6 := h2.2 g4
    refine z_iconst (v := (0 : Int32)) dX12_row_34 rfl ?_
    exact z_iret dX12_row_35 rfl rfl (by decide) h6
def w_X12_isWritten_22 (E : zEv) (D : Nat) (post : Int32 → zM → Prop) (px : String → zM → Prop)   (M : zM) : Prop := Z E jX12_isWritten (D + 1) 0 (zQi post px) 22 0 [.ref 0, zU, zU] [] M
def w_X12_isWritten_23 (E : zEv) (D : Nat) (post : Int32 → zM → Prop) (px : String → zM → Prop)  (s0 : Int32) (M : zM) : Prop := Z E jX12_isWritten (D + 1) 0 (zQi post px) 23 0 [.ref 0, zU, zU] [.int s0] M
def w_X12_isWritten_26 (E : zEv) (D : Nat) (post : Int32 → zM → Prop) (px : String → zM → Prop)  (y1 : Int32) (y2 : Int32) (M : zM) : Prop := Z E jX12_isWritten (D + 1) 0 (zQi post px) 26 0 [.ref 0, .int y1, .int y2] [] M
def w_X12_isWritten_95 (E : zEv) (D : Nat) (post : Int32 → zM → Prop) (px : String → zM → Prop)  (y1 : Int32) (M : zM) : Prop := Z E jX12_isWritten (D + 1) 0 (zQi post px) 95 0 [zU, .int y1, zU] [] M
def w_X12_isWritten_87 (E : zEv) (D : Nat) (post : Int32 → zM → Prop) (px : String → zM → Prop)  (y2 : Int32) (M : zM) : Prop := Z E jX12_isWritten (D + 1) 0 (zQi post px) 87 0 [.ref 0, zU, .int y2] [] M
def w_X12_isWritten_88 (E : zEv) (D : Nat) (post : Int32 → zM → Prop) (px : String → zM → Prop)  (y2 : Int32) (s0 : Int32) (M : zM) : Prop := Z E jX12_isWritten (D + 1) 0 (zQi post px) 88 0 [.ref 0, zU, .int y2] [.int s0] M
theorem e_X12_isWritten {E : zEv} {D : Nat} {post : Int32 → zM → Prop} {px : String → zM → Prop} {M : zM}   (h : ((¬ (zrem (M.1 0 11) (3 : Int32)) = 0 → w_X12_isWritten_22 E D post px  M) ∧ ((zrem (M.1 0 11) (3 : Int32)) = 0 → (((45 : Int32) < (M.1 0 11) → w_X12_isWritten_22 E D post px  M) ∧ (¬ (45 : Int32) < (M.1 0 11) → w_X12_isWritten_23 E D post px (1 : Int32) M))))) : zCi E jX12_isWritten (D + 1) 0 [.ref 0] M post px := by
  refine z_meth (by decide) (Nat.le_of_ble_eq_true rfl) ?_
  show Z E jX12_isWritten (D + 1) 0 (zQi post px) 0 0 [.ref 0, zU, zU] [] M
  refine z_aload_n dX12_isWritten_0 rfl ?_
  refine z_getI dX12_isWritten_1 zg_X12_112 zs_0 rfl ?_
  refine z_iconst (v := (3 : Int32)) dX12_isWritten_4 rfl ?_
  refine z_irem dX12_isWritten_5 (by decide) ?_
  refine z_if_ne (tgt := 22) dX12_isWritten_6 (by decide) (fun g1 => ?_) (fun g1 => ?_)
  · have h2 := h.1 g1
    exact h2
  · have h3 := h.2 g1
    refine z_aload_n dX12_isWritten_9 rfl ?_
    refine z_getI dX12_isWritten_10 zg_X12_112 zs_0 rfl ?_
    refine z_bipush (v := (45 : Int32)) dX12_isWritten_13 rfl ?_
    refine z_icmp_gt (tgt := 22) dX12_isWritten_15 (by decide) (fun g4 => ?_) (fun g4 => ?_)
    · have h5 := h3.1 g4
      exact h5
    · have h6 := h3.2 g4
      refine z_iconst (v := (1 : Int32)) dX12_isWritten_18 rfl ?_
      refine z_goto (tgt := 23) dX12_isWritten_19 (by decide) ?_
      exact h6
theorem t_X12_isWritten_22 {E : zEv} {D : Nat} {post : Int32 → zM → Prop} {px : String → zM → Prop} {M : zM}    (h : w_X12_isWritten_23 E D post px (0 : Int32) M) : w_X12_isWritten_22 E D post px  M := by
  show Z E jX12_isWritten (D + 1) 0 (zQi post px) 22 0 [.ref 0, zU, zU] [] M
  refine z_iconst (v := (0 : Int32)) dX12_isWritten_22 rfl ?_
  exact h
theorem t_X12_isWritten_23 {E : zEv} {D : Nat} {post : Int32 → zM → Prop} {px : String → zM → Prop} {M : zM}   {s0 : Int32} (h : w_X12_isWritten_26 E D post px s0 (0 : Int32) M) : w_X12_isWritten_23 E D post px s0 M := by
  show Z E jX12_isWritten (D + 1) 0 (zQi post px) 23 0 [.ref 0, zU, zU] [.int s0] M
  refine z_istore_n dX12_isWritten_23 (by decide) (ls' := [.ref 0, .int s0, zU]) rfl ?_
  refine z_iconst (v := (0 : Int32)) dX12_isWritten_24 rfl ?_
  refine z_istore_n dX12_isWritten_25 (by decide) (ls' := [.ref 0, .int s0, .int (0 : Int32)]) rfl ?_
  exact h
theorem t_X12_isWritten_26 {E : zEv} {D : Nat} {post : Int32 → zM → Prop} {px : String → zM → Prop} {M : zM}   {y1 : Int32} {y2 : Int32} (h : (((M.1 0 11) ≤ y2 → w_X12_isWritten_95 E D post px y1 M) ∧ (¬ (M.1 0 11) ≤ y2 → ((y1 = 0 → w_X12_isWritten_95 E D post px y1 M) ∧ (¬ y1 = 0 → vp_in y2 400 ∧ zCi E jX12_noWoman D 0 [.ref 0, .int (M.1 6 (y2).toNatClampNeg)] M (fun r11 M9 => ((¬ r11 = 0 → w_X12_isWritten_87 E D post px y2 M9) ∧ (r11 = 0 → vp_in (y2 + (1 : Int32)) 400 ∧ zCi E jX12_noWitness D 0 [.ref 0, .int (M9.1 6 ((y2 + (1 : Int32))).toNatClampNeg)] M9 (fun r19 M17 => ((¬ r19 = 0 → w_X12_isWritten_87 E D post px y2 M17) ∧ (r19 = 0 → vp_in (y2 + (2 : Int32)) 400 ∧ zCi E jX12_in D 0 [.int (M17.1 6 ((y2 + (2 : Int32))).toNatClampNeg), .int (0 : Int32), .int (99 : Int32)] M17 (fun r27 M25 => ((r27 = 0 → w_X12_isWritten_87 E D post px y2 M25) ∧ (¬ r27 = 0 → w_X12_isWritten_88 E D post px y2 (1 : Int32) M25))) px))) px))) px))))) : w_X12_isWritten_26 E D post px y1 y2 M := by
  show Z E jX12_isWritten (D + 1) 0 (zQi post px) 26 0 [.ref 0, .int y1, .int y2] [] M
  refine z_iload_n dX12_isWritten_26 rfl ?_
  refine z_aload_n dX12_isWritten_27 rfl ?_
  refine z_getI dX12_isWritten_28 zg_X12_112 zs_0 rfl ?_
  refine z_icmp_ge (tgt := 95) dX12_isWritten_31 (by decide) (fun g1 => ?_) (fun g1 => ?_)
  · have h2 := h.1 g1
    refine z_weak [false, true, false] (ls' := [zU, .int y1, zU]) rfl rfl ?_
    exact h2
  · have h3 := h.2 g1
    refine z_iload_n dX12_isWritten_34 rfl ?_
    refine z_if_eq (tgt := 95) dX12_isWritten_35 (by decide) (fun g4 => ?_) (fun g4 => ?_)
    · have h5 := h3.1 g4
      refine z_weak [false, true, false] (ls' := [zU, .int y1, zU]) rfl rfl ?_
      exact h5
    · have h6 := h3.2 g4
      refine z_aload_n dX12_isWritten_38 rfl ?_
      refine z_aload_n dX12_isWritten_39 rfl ?_
      refine z_getR dX12_isWritten_40 zg_X12_29 zs_0 rfl ?_
      refine z_iload_n dX12_isWritten_43 rfl ?_
      obtain ⟨g8, h7⟩ := h6
      refine z_bald dX12_isWritten_44 zs_6 g8 ?_
      refine z_callVi (As := [.int (M.1 6 (y2).toNatClampNeg)]) (st := []) dX12_isWritten_45 zi_X12_394 rfl rfl zs_0 rfl rfl (Nat.le_of_ble_eq_true rfl) (by decide) (fun _ _ hx => hx) h7 ?_
      intro r11 M9 h10
      refine z_if_ne (tgt := 87) dX12_isWritten_48 (by decide) (fun g12 => ?_) (fun g12 => ?_)
      · have h13 := h10.1 g12
        refine z_weak [true, false, true] (ls' := [.ref 0, zU, .int y2]) rfl rfl ?_
        exact h13
      · have h14 := h10.2 g12
        refine z_aload_n dX12_isWritten_51 rfl ?_
        refine z_aload_n dX12_isWritten_52 rfl ?_
        refine z_getR dX12_isWritten_53 zg_X12_29 zs_0 rfl ?_
        refine z_iload_n dX12_isWritten_56 rfl ?_
        refine z_iconst (v := (1 : Int32)) dX12_isWritten_57 rfl ?_
        refine z_iadd dX12_isWritten_58 ?_
        obtain ⟨g16, h15⟩ := h14
        refine z_bald dX12_isWritten_59 zs_6 g16 ?_
        refine z_callVi (As := [.int (M9.1 6 ((y2 + (1 : Int32))).toNatClampNeg)]) (st := []) dX12_isWritten_60 zi_X12_370 rfl rfl zs_0 rfl rfl (Nat.le_of_ble_eq_true rfl) (by decide) (fun _ _ hx => hx) h15 ?_
        intro r19 M17 h18
        refine z_if_ne (tgt := 87) dX12_isWritten_63 (by decide) (fun g20 => ?_) (fun g20 => ?_)
        · have h21 := h18.1 g20
          refine z_weak [true, false, true] (ls' := [.ref 0, zU, .int y2]) rfl rfl ?_
          exact h21
        · have h22 := h18.2 g20
          refine z_aload_n dX12_isWritten_66 rfl ?_
          refine z_getR dX12_isWritten_67 zg_X12_29 zs_0 rfl ?_
          refine z_iload_n dX12_isWritten_70 rfl ?_
          refine z_iconst (v := (2 : Int32)) dX12_isWritten_71 rfl ?_
          refine z_iadd dX12_isWritten_72 ?_
          obtain ⟨g24, h23⟩ := h22
          refine z_bald dX12_isWritten_73 zs_6 g24 ?_
          refine z_iconst (v := (0 : Int32)) dX12_isWritten_74 rfl ?_
          refine z_bipush (v := (99 : Int32)) dX12_isWritten_75 rfl ?_
          refine z_callSi (As := [.int (M17.1 6 ((y2 + (2 : Int32))).toNatClampNeg), .int (0 : Int32), .int (99 : Int32)]) (st := []) dX12_isWritten_77 zi_X12_95 rfl rfl (Nat.le_of_ble_eq_true rfl) (by decide) (fun _ _ hx => hx) h23 ?_
          intro r27 M25 h26
          refine z_if_eq (tgt := 87) dX12_isWritten_80 (by decide) (fun g28 => ?_) (fun g28 => ?_)
          · have h29 := h26.1 g28
            refine z_weak [true, false, true] (ls' := [.ref 0, zU, .int y2]) rfl rfl ?_
            exact h29
          · have h30 := h26.2 g28
            refine z_iconst (v := (1 : Int32)) dX12_isWritten_83 rfl ?_
            refine z_goto (tgt := 88) dX12_isWritten_84 (by decide) ?_
            refine z_weak [true, false, true] (ls' := [.ref 0, zU, .int y2]) rfl rfl ?_
            exact h30
theorem t_X12_isWritten_95 {E : zEv} {D : Nat} {post : Int32 → zM → Prop} {px : String → zM → Prop} {M : zM}   {y1 : Int32} (h : (y1 = 0 ∨ y1 = 1) ∧ post y1 M) : w_X12_isWritten_95 E D post px y1 M := by
  show Z E jX12_isWritten (D + 1) 0 (zQi post px) 95 0 [zU, .int y1, zU] [] M
  refine z_iload_n dX12_isWritten_95 rfl ?_
  obtain ⟨g2, h1⟩ := h
  exact z_iret dX12_isWritten_96 rfl (zbool g2) (by decide) h1
theorem t_X12_isWritten_87 {E : zEv} {D : Nat} {post : Int32 → zM → Prop} {px : String → zM → Prop} {M : zM}   {y2 : Int32} (h : w_X12_isWritten_88 E D post px y2 (0 : Int32) M) : w_X12_isWritten_87 E D post px y2 M := by
  show Z E jX12_isWritten (D + 1) 0 (zQi post px) 87 0 [.ref 0, zU, .int y2] [] M
  refine z_iconst (v := (0 : Int32)) dX12_isWritten_87 rfl ?_
  exact h
theorem t_X12_isWritten_88 {E : zEv} {D : Nat} {post : Int32 → zM → Prop} {px : String → zM → Prop} {M : zM}   {y2 : Int32} {s0 : Int32} (h : w_X12_isWritten_26 E D post px s0 (y2 + (3 : Int32)) M) : w_X12_isWritten_88 E D post px y2 s0 M := by
  show Z E jX12_isWritten (D + 1) 0 (zQi post px) 88 0 [.ref 0, zU, .int y2] [.int s0] M
  refine z_istore_n dX12_isWritten_88 (by decide) (ls' := [.ref 0, .int s0, .int y2]) rfl ?_
  refine z_iinc dX12_isWritten_89 rfl (by decide) (ls' := [.ref 0, .int s0, .int (y2 + (3 : Int32))]) rfl ?_
  refine z_goto (tgt := 26) dX12_isWritten_92 (by decide) ?_
  exact h
def w_X12_asWritten_6 (E : zEv) (D : Nat) (post : Int32 → zM → Prop) (px : String → zM → Prop)  (y1 : Int32) (y2 : Int32) (y3 : Int32) (y4 : Int32) (y5 : Int32) (M : zM) : Prop := Z E jX12_asWritten (D + 1) 0 (zQi post px) 6 0 [.ref 0, .int y1, .int y2, .int y3, .int y4, .int y5] [] M
def w_X12_asWritten_75 (E : zEv) (D : Nat) (post : Int32 → zM → Prop) (px : String → zM → Prop)  (y1 : Int32) (y2 : Int32) (y3 : Int32) (y5 : Int32) (M : zM) : Prop := Z E jX12_asWritten (D + 1) 0 (zQi post px) 75 0 [.ref 0, .int y1, .int y2, .int y3, zU, .int y5] [] M
def w_X12_asWritten_71 (E : zEv) (D : Nat) (post : Int32 → zM → Prop) (px : String → zM → Prop)  (y1 : Int32) (y2 : Int32) (y3 : Int32) (y5 : Int32) (M : zM) : Prop := Z E jX12_asWritten (D + 1) 0 (zQi post px) 71 0 [.ref 0, .int y1, .int y2, .int y3, zU, .int y5] [] M
def w_X12_asWritten_76 (E : zEv) (D : Nat) (post : Int32 → zM → Prop) (px : String → zM → Prop)  (y1 : Int32) (y2 : Int32) (y3 : Int32) (y5 : Int32) (s0 : Int32) (M : zM) : Prop := Z E jX12_asWritten (D + 1) 0 (zQi post px) 76 0 [.ref 0, .int y1, .int y2, .int y3, zU, .int y5] [.int s0] M
theorem e_X12_asWritten {E : zEv} {D : Nat} {post : Int32 → zM → Prop} {px : String → zM → Prop} {M : zM} {x1 : Int32} {x2 : Int32} {x3 : Int32}  (h : w_X12_asWritten_6 E D post px x1 x2 x3 (1 : Int32) (0 : Int32) M) : zCi E jX12_asWritten (D + 1) 0 [.ref 0, .int x1, .int x2, .int x3] M post px := by
  refine z_meth (by decide) (Nat.le_of_ble_eq_true rfl) ?_
  show Z E jX12_asWritten (D + 1) 0 (zQi post px) 0 0 [.ref 0, .int x1, .int x2, .int x3, zU, zU] [] M
  refine z_iconst (v := (1 : Int32)) dX12_asWritten_0 rfl ?_
  refine z_istore dX12_asWritten_1 (by decide) (ls' := [.ref 0, .int x1, .int x2, .int x3, .int (1 : Int32), zU]) rfl ?_
  refine z_iconst (v := (0 : Int32)) dX12_asWritten_3 rfl ?_
  refine z_istore dX12_asWritten_4 (by decide) (ls' := [.ref 0, .int x1, .int x2, .int x3, .int (1 : Int32), .int (0 : Int32)]) rfl ?_
  exact h
theorem t_X12_asWritten_6 {E : zEv} {D : Nat} {post : Int32 → zM → Prop} {px : String → zM → Prop} {M : zM}   {y1 : Int32} {y2 : Int32} {y3 : Int32} {y4 : Int32} {y5 : Int32} (h : (((M.1 0 11) ≤ y5 → (y4 = 0 ∨ y4 = 1) ∧ post y4 M) ∧ (¬ (M.1 0 11) ≤ y5 → ((y4 = 0 → w_X12_asWritten_75 E D post px y1 y2 y3 y5 M) ∧ (¬ y4 = 0 → vp_in (y5 + (1 : Int32)) 400 ∧ ((¬ (M.1 6 ((y5 + (1 : Int32))).toNatClampNeg) = y1 → w_X12_asWritten_71 E D post px y1 y2 y3 y5 M) ∧ ((M.1 6 ((y5 + (1 : Int32))).toNatClampNeg) = y1 → vp_in y5 400 ∧ zCi E jX12_has D 0 [.int y3, .int (M.1 6 (y5).toNatClampNeg)] M (fun r18 M16 => ((¬ r18 = 0 → w_X12_asWritten_71 E D post px y1 y2 y3 y5 M16) ∧ (r18 = 0 → vp_in y5 400 ∧ zCi E jX12_readBy D 0 [.ref 0, .int (M16.1 6 (y5).toNatClampNeg), .int y2] M16 (fun r26 M24 => vp_in (y5 + (2 : Int32)) 400 ∧ ((¬ r26 = (M24.1 6 ((y5 + (2 : Int32))).toNatClampNeg) → w_X12_asWritten_75 E D post px y1 y2 y3 y5 M24) ∧ (r26 = (M24.1 6 ((y5 + (2 : Int32))).toNatClampNeg) → w_X12_asWritten_71 E D post px y1 y2 y3 y5 M24))) px))) px))))))) : w_X12_asWritten_6 E D post px y1 y2 y3 y4 y5 M := by
  show Z E jX12_asWritten (D + 1) 0 (zQi post px) 6 0 [.ref 0, .int y1, .int y2, .int y3, .int y4, .int y5] [] M
  refine z_iload dX12_asWritten_6 rfl ?_
  refine z_aload_n dX12_asWritten_8 rfl ?_
  refine z_getI dX12_asWritten_9 zg_X12_112 zs_0 rfl ?_
  refine z_icmp_ge (tgt := 84) dX12_asWritten_12 (by decide) (fun g1 => ?_) (fun g1 => ?_)
  · have h2 := h.1 g1
    refine z_iload dX12_asWritten_84 rfl ?_
    obtain ⟨g5, h4⟩ := h2
    exact z_iret dX12_asWritten_86 rfl (zbool g5) (by decide) h4
  · have h3 := h.2 g1
    refine z_iload dX12_asWritten_15 rfl ?_
    refine z_if_eq (tgt := 75) dX12_asWritten_17 (by decide) (fun g6 => ?_) (fun g6 => ?_)
    · have h7 := h3.1 g6
      refine z_weak [true, true, true, true, false, true] (ls' := [.ref 0, .int y1, .int y2, .int y3, zU, .int y5]) rfl rfl ?_
      exact h7
    · have h8 := h3.2 g6
      refine z_aload_n dX12_asWritten_20 rfl ?_
      refine z_getR dX12_asWritten_21 zg_X12_29 zs_0 rfl ?_
      refine z_iload dX12_asWritten_24 rfl ?_
      refine z_iconst (v := (1 : Int32)) dX12_asWritten_26 rfl ?_
      refine z_iadd dX12_asWritten_27 ?_
      obtain ⟨g10, h9⟩ := h8
      refine z_bald dX12_asWritten_28 zs_6 g10 ?_
      refine z_iload_n dX12_asWritten_29 rfl ?_
      refine z_icmp_ne (tgt := 71) dX12_asWritten_30 (by decide) (fun g11 => ?_) (fun g11 => ?_)
      · have h12 := h9.1 g11
        refine z_weak [true, true, true, true, false, true] (ls' := [.ref 0, .int y1, .int y2, .int y3, zU, .int y5]) rfl rfl ?_
        exact h12
      · have h13 := h9.2 g11
        refine z_iload_n dX12_asWritten_33 rfl ?_
        refine z_aload_n dX12_asWritten_34 rfl ?_
        refine z_getR dX12_asWritten_35 zg_X12_29 zs_0 rfl ?_
        refine z_iload dX12_asWritten_38 rfl ?_
        obtain ⟨g15, h14⟩ := h13
        refine z_bald dX12_asWritten_40 zs_6 g15 ?_
        refine z_callSi (As := [.int y3, .int (M.1 6 (y5).toNatClampNeg)]) (st := []) dX12_asWritten_41 zi_X12_147 rfl rfl (Nat.le_of_ble_eq_true rfl) (by decide) (fun _ _ hx => hx) h14 ?_
        intro r18 M16 h17
        refine z_if_ne (tgt := 71) dX12_asWritten_44 (by decide) (fun g19 => ?_) (fun g19 => ?_)
        · have h20 := h17.1 g19
          refine z_weak [true, true, true, true, false, true] (ls' := [.ref 0, .int y1, .int y2, .int y3, zU, .int y5]) rfl rfl ?_
          exact h20
        · have h21 := h17.2 g19
          refine z_aload_n dX12_asWritten_47 rfl ?_
          refine z_aload_n dX12_asWritten_48 rfl ?_
          refine z_getR dX12_asWritten_49 zg_X12_29 zs_0 rfl ?_
          refine z_iload dX12_asWritten_52 rfl ?_
          obtain ⟨g23, h22⟩ := h21
          refine z_bald dX12_asWritten_54 zs_6 g23 ?_
          refine z_iload_n dX12_asWritten_55 rfl ?_
          refine z_callVi (As := [.int (M16.1 6 (y5).toNatClampNeg), .int y2]) (st := []) dX12_asWritten_56 zi_X12_358 rfl rfl zs_0 rfl rfl (Nat.le_of_ble_eq_true rfl) (by decide) (fun _ _ hx => hx) h22 ?_
          intro r26 M24 h25
          refine z_aload_n dX12_asWritten_59 rfl ?_
          refine z_getR dX12_asWritten_60 zg_X12_29 zs_0 rfl ?_
          refine z_iload dX12_asWritten_63 rfl ?_
          refine z_iconst (v := (2 : Int32)) dX12_asWritten_65 rfl ?_
          refine z_iadd dX12_asWritten_66 ?_
          obtain ⟨g28, h27⟩ := h25
          refine z_bald dX12_asWritten_67 zs_6 g28 ?_
          refine z_icmp_ne (tgt := 75) dX12_asWritten_68 (by decide) (fun g29 => ?_) (fun g29 => ?_)
          · have h30 := h27.1 g29
            refine z_weak [true, true, true, true, false, true] (ls' := [.ref 0, .int y1, .int y2, .int y3, zU, .int y5]) rfl rfl ?_
            exact h30
          · have h31 := h27.2 g29
            refine z_weak [true, true, true, true, false, true] (ls' := [.ref 0, .int y1, .int y2, .int y3, zU, .int y5]) rfl rfl ?_
            exact h31
theorem t_X12_asWritten_75 {E : zEv} {D : Nat} {post : Int32 → zM → Prop} {px : String → zM → Prop} {M : zM}   {y1 : Int32} {y2 : Int32} {y3 : Int32} {y5 : Int32} (h : w_X12_asWritten_76 E D post px y1 y2 y3 y5 (0 : Int32) M) : w_X12_asWritten_75 E D post px y1 y2 y3 y5 M := by
  show Z E jX12_asWritten (D + 1) 0 (zQi post px) 75 0 [.ref 0, .int y1, .int y2, .int y3, zU, .int y5] [] M
  refine z_iconst (v := (0 : Int32)) dX12_asWritten_75 rfl ?_
  exact h
theorem t_X12_asWritten_71 {E : zEv} {D : Nat} {post : Int32 → zM → Prop} {px : String → zM → Prop} {M : zM}   {y1 : Int32} {y2 : Int32} {y3 : Int32} {y5 : Int32} (h : w_X12_asWritten_76 E D post px y1 y2 y3 y5 (1 : Int32) M) : w_X12_asWritten_71 E D post px y1 y2 y3 y5 M := by
  show Z E jX12_asWritten (D + 1) 0 (zQi post px) 71 0 [.ref 0, .int y1, .int y2, .int y3, zU, .int y5] [] M
  refine z_iconst (v := (1 : Int32)) dX12_asWritten_71 rfl ?_
  refine z_goto (tgt := 76) dX12_asWritten_72 (by decide) ?_
  exact h
theorem t_X12_asWritten_76 {E : zEv} {D : Nat} {post : Int32 → zM → Prop} {px : String → zM → Prop} {M : zM}   {y1 : Int32} {y2 : Int32} {y3 : Int32} {y5 : Int32} {s0 : Int32} (h : w_X12_asWritten_6 E D post px y1 y2 y3 s0 (y5 + (3 : Int32)) M) : w_X12_asWritten_76 E D post px y1 y2 y3 y5 s0 M := by
  show Z E jX12_asWritten (D + 1) 0 (zQi post px) 76 0 [.ref 0, .int y1, .int y2, .int y3, zU, .int y5] [.int s0] M
  refine z_istore dX12_asWritten_76 (by decide) (ls' := [.ref 0, .int y1, .int y2, .int y3, .int s0, .int y5]) rfl ?_
  refine z_iinc dX12_asWritten_78 rfl (by decide) (ls' := [.ref 0, .int y1, .int y2, .int y3, .int s0, .int (y5 + (3 : Int32))]) rfl ?_
  refine z_goto (tgt := 6) dX12_asWritten_81 (by decide) ?_
  exact h
def w_X12_shadesLeft_5 (E : zEv) (D : Nat) (post : Int32 → zM → Prop) (px : String → zM → Prop)  (y1 : Int32) (y2 : Int32) (y3 : Int32) (y4 : Int32) (M : zM) : Prop := Z E jX12_shadesLeft (D + 1) 0 (zQi post px) 5 0 [.ref 0, .int y1, .int y2, .int y3, .int y4] [] M
def w_X12_shadesLeft_29 (E : zEv) (D : Nat) (post : Int32 → zM → Prop) (px : String → zM → Prop)  (y1 : Int32) (y2 : Int32) (y4 : Int32) (s0 : Int32) (s1 : Int32) (M : zM) : Prop := Z E jX12_shadesLeft (D + 1) 0 (zQi post px) 29 0 [.ref 0, .int y1, .int y2, zU, .int y4] [.int s0, .int s1] M
theorem e_X12_shadesLeft {E : zEv} {D : Nat} {post : Int32 → zM → Prop} {px : String → zM → Prop} {M : zM} {x1 : Int32} {x2 : Int32}  (h : w_X12_shadesLeft_5 E D post px x1 x2 (0 : Int32) (0 : Int32) M) : zCi E jX12_shadesLeft (D + 1) 0 [.ref 0, .int x1, .int x2] M post px := by
  refine z_meth (by decide) (Nat.le_of_ble_eq_true rfl) ?_
  show Z E jX12_shadesLeft (D + 1) 0 (zQi post px) 0 0 [.ref 0, .int x1, .int x2, zU, zU] [] M
  refine z_iconst (v := (0 : Int32)) dX12_shadesLeft_0 rfl ?_
  refine z_istore_n dX12_shadesLeft_1 (by decide) (ls' := [.ref 0, .int x1, .int x2, .int (0 : Int32), zU]) rfl ?_
  refine z_iconst (v := (0 : Int32)) dX12_shadesLeft_2 rfl ?_
  refine z_istore dX12_shadesLeft_3 (by decide) (ls' := [.ref 0, .int x1, .int x2, .int (0 : Int32), .int (0 : Int32)]) rfl ?_
  exact h
theorem t_X12_shadesLeft_5 {E : zEv} {D : Nat} {post : Int32 → zM → Prop} {px : String → zM → Prop} {M : zM}   {y1 : Int32} {y2 : Int32} {y3 : Int32} {y4 : Int32} (h : (((99 : Int32) < y4 → post y3 M) ∧ (¬ (99 : Int32) < y4 → zCi E jX12_asWritten D 0 [.ref 0, .int y1, .int y4, .int y2] M (fun r6 M4 => ((r6 = 0 → w_X12_shadesLeft_29 E D post px y1 y2 y4 (0 : Int32) y3 M4) ∧ (¬ r6 = 0 → w_X12_shadesLeft_29 E D post px y1 y2 y4 (1 : Int32) y3 M4))) px))) : w_X12_shadesLeft_5 E D post px y1 y2 y3 y4 M := by
  show Z E jX12_shadesLeft (D + 1) 0 (zQi post px) 5 0 [.ref 0, .int y1, .int y2, .int y3, .int y4] [] M
  refine z_iload dX12_shadesLeft_5 rfl ?_
  refine z_bipush (v := (99 : Int32)) dX12_shadesLeft_7 rfl ?_
  refine z_icmp_gt (tgt := 37) dX12_shadesLeft_9 (by decide) (fun g1 => ?_) (fun g1 => ?_)
  · have h2 := h.1 g1
    refine z_iload_n dX12_shadesLeft_37 rfl ?_
    exact z_iret dX12_shadesLeft_38 rfl rfl (by decide) h2
  · have h3 := h.2 g1
    refine z_iload_n dX12_shadesLeft_12 rfl ?_
    refine z_aload_n dX12_shadesLeft_13 rfl ?_
    refine z_iload_n dX12_shadesLeft_14 rfl ?_
    refine z_iload dX12_shadesLeft_15 rfl ?_
    refine z_iload_n dX12_shadesLeft_17 rfl ?_
    refine z_callVi (As := [.int y1, .int y4, .int y2]) (st := [.int y3]) dX12_shadesLeft_18 zi_X12_469 rfl rfl zs_0 rfl rfl (Nat.le_of_ble_eq_true rfl) (by decide) (fun _ _ hx => hx) h3 ?_
    intro r6 M4 h5
    refine z_if_eq (tgt := 28) dX12_shadesLeft_21 (by decide) (fun g7 => ?_) (fun g7 => ?_)
    · have h8 := h5.1 g7
      refine z_iconst (v := (0 : Int32)) dX12_shadesLeft_28 rfl ?_
      refine z_weak [true, true, true, false, true] (ls' := [.ref 0, .int y1, .int y2, zU, .int y4]) rfl rfl ?_
      exact h8
    · have h9 := h5.2 g7
      refine z_iconst (v := (1 : Int32)) dX12_shadesLeft_24 rfl ?_
      refine z_goto (tgt := 29) dX12_shadesLeft_25 (by decide) ?_
      refine z_weak [true, true, true, false, true] (ls' := [.ref 0, .int y1, .int y2, zU, .int y4]) rfl rfl ?_
      exact h9
theorem t_X12_shadesLeft_29 {E : zEv} {D : Nat} {post : Int32 → zM → Prop} {px : String → zM → Prop} {M : zM}   {y1 : Int32} {y2 : Int32} {y4 : Int32} {s0 : Int32} {s1 : Int32} (h : w_X12_shadesLeft_5 E D post px y1 y2 (s1 + s0) (y4 + (1 : Int32)) M) : w_X12_shadesLeft_29 E D post px y1 y2 y4 s0 s1 M := by
  show Z E jX12_shadesLeft (D + 1) 0 (zQi post px) 29 0 [.ref 0, .int y1, .int y2, zU, .int y4] [.int s0, .int s1] M
  refine z_iadd dX12_shadesLeft_29 ?_
  refine z_istore_n dX12_shadesLeft_30 (by decide) (ls' := [.ref 0, .int y1, .int y2, .int (s1 + s0), .int y4]) rfl ?_
  refine z_iinc dX12_shadesLeft_31 rfl (by decide) (ls' := [.ref 0, .int y1, .int y2, .int (s1 + s0), .int (y4 + (1 : Int32))]) rfl ?_
  refine z_goto (tgt := 5) dX12_shadesLeft_34 (by decide) ?_
  exact h
def w_X12_wrong_17 (E : zEv) (D : Nat) (post : Int32 → zM → Prop) (px : String → zM → Prop)  (s0 : Int32) (M : zM) : Prop := Z E jX12_wrong (D + 1) 0 (zQi post px) 17 0 [.ref 0, zU, zU, zU, zU] [.int s0, .ref 0] M
def w_X12_wrong_37 (E : zEv) (D : Nat) (post : Int32 → zM → Prop) (px : String → zM → Prop)  (y1 : Int32) (y2 : Int32) (M : zM) : Prop := Z E jX12_wrong (D + 1) 0 (zQi post px) 37 0 [.ref 0, .int y1, .int y2, zU, zU] [] M
def w_X12_wrong_63 (E : zEv) (D : Nat) (post : Int32 → zM → Prop) (px : String → zM → Prop)  (y1 : Int32) (y2 : Int32) (s0 : Int32) (M : zM) : Prop := Z E jX12_wrong (D + 1) 0 (zQi post px) 63 0 [.ref 0, .int y1, .int y2, zU, zU] [.int s0] M
def w_X12_wrong_67 (E : zEv) (D : Nat) (post : Int32 → zM → Prop) (px : String → zM → Prop)  (y1 : Int32) (y2 : Int32) (y3 : Int32) (y4 : Int32) (M : zM) : Prop := Z E jX12_wrong (D + 1) 0 (zQi post px) 67 0 [.ref 0, .int y1, .int y2, .int y3, .int y4] [] M
def w_X12_wrong_102 (E : zEv) (D : Nat) (post : Int32 → zM → Prop) (px : String → zM → Prop)  (y1 : Int32) (y2 : Int32) (y3 : Int32) (M : zM) : Prop := Z E jX12_wrong (D + 1) 0 (zQi post px) 102 0 [.ref 0, .int y1, .int y2, .int y3, zU] [] M
def w_X12_wrong_95 (E : zEv) (D : Nat) (post : Int32 → zM → Prop) (px : String → zM → Prop)  (y1 : Int32) (y2 : Int32) (y4 : Int32) (s0 : Int32) (M : zM) : Prop := Z E jX12_wrong (D + 1) 0 (zQi post px) 95 0 [.ref 0, .int y1, .int y2, zU, .int y4] [.int s0] M
def w_X12_wrong_111 (E : zEv) (D : Nat) (post : Int32 → zM → Prop) (px : String → zM → Prop)  (y2 : Int32) (s0 : Int32) (M : zM) : Prop := Z E jX12_wrong (D + 1) 0 (zQi post px) 111 0 [.ref 0, zU, .int y2, zU, zU] [.int s0] M
theorem e_X12_wrong {E : zEv} {D : Nat} {post : Int32 → zM → Prop} {px : String → zM → Prop} {M : zM}   (h : zCv E jX12_uses D 0 [.ref 0] M (fun M1 => zCi E jX12_isWritten D 0 [.ref 0] M1 (fun r5 M3 => ((¬ r5 = 0 → w_X12_wrong_17 E D post px (0 : Int32) M3) ∧ (r5 = 0 → w_X12_wrong_17 E D post px (1 : Int32) M3))) px) px) : zCi E jX12_wrong (D + 1) 0 [.ref 0] M post px := by
  refine z_meth (by decide) (Nat.le_of_ble_eq_true rfl) ?_
  show Z E jX12_wrong (D + 1) 0 (zQi post px) 0 0 [.ref 0, zU, zU, zU, zU] [] M
  refine z_aload_n dX12_wrong_0 rfl ?_
  refine z_callVv (As := []) (st := []) dX12_wrong_1 zi_X12_271 rfl rfl zs_0 rfl rfl (Nat.le_of_ble_eq_true rfl) (by decide) (fun _ _ hx => hx) h ?_
  intro M1 h2
  refine z_aload_n dX12_wrong_4 rfl ?_
  refine z_aload_n dX12_wrong_5 rfl ?_
  refine z_callVi (As := []) (st := [.ref 0]) dX12_wrong_6 zi_X12_472 rfl rfl zs_0 rfl rfl (Nat.le_of_ble_eq_true rfl) (by decide) (fun _ _ hx => hx) h2 ?_
  intro r5 M3 h4
  refine z_if_ne (tgt := 16) dX12_wrong_9 (by decide) (fun g6 => ?_) (fun g6 => ?_)
  · have h7 := h4.1 g6
    refine z_iconst (v := (0 : Int32)) dX12_wrong_16 rfl ?_
    exact h7
  · have h8 := h4.2 g6
    refine z_iconst (v := (1 : Int32)) dX12_wrong_12 rfl ?_
    refine z_goto (tgt := 17) dX12_wrong_13 (by decide) ?_
    exact h8
theorem t_X12_wrong_17 {E : zEv} {D : Nat} {post : Int32 → zM → Prop} {px : String → zM → Prop} {M : zM}   {s0 : Int32} (h : zCi E jX12_throwsIf D 0 [.ref 0, .int s0, .int (1 : Int32)] M (fun r3 M1 => ((r3 = 0 → zCi E jX12_women D 0 [.ref 0] M1 (fun r9 M7 => w_X12_wrong_37 E D post px (((1 : Int32) <<< (r9 &&& 31)) - (1 : Int32)) (0 : Int32) M7) px) ∧ (¬ r3 = 0 → post (0 : Int32) M1))) px) : w_X12_wrong_17 E D post px s0 M := by
  show Z E jX12_wrong (D + 1) 0 (zQi post px) 17 0 [.ref 0, zU, zU, zU, zU] [.int s0, .ref 0] M
  refine z_iconst (v := (1 : Int32)) dX12_wrong_17 rfl ?_
  refine z_callVi (As := [.int s0, .int (1 : Int32)]) (st := []) dX12_wrong_18 zi_X12_282 rfl rfl zs_0 rfl rfl (Nat.le_of_ble_eq_true rfl) (by decide) (fun _ _ hx => hx) h ?_
  intro r3 M1 h2
  refine z_if_eq (tgt := 26) dX12_wrong_21 (by decide) (fun g4 => ?_) (fun g4 => ?_)
  · have h5 := h2.1 g4
    refine z_iconst (v := (1 : Int32)) dX12_wrong_26 rfl ?_
    refine z_aload_n dX12_wrong_27 rfl ?_
    refine z_callVi (As := []) (st := [.int (1 : Int32)]) dX12_wrong_28 zi_X12_102 rfl rfl zs_0 rfl rfl (Nat.le_of_ble_eq_true rfl) (by decide) (fun _ _ hx => hx) h5 ?_
    intro r9 M7 h8
    refine z_ishl dX12_wrong_31 ?_
    refine z_iconst (v := (1 : Int32)) dX12_wrong_32 rfl ?_
    refine z_isub dX12_wrong_33 ?_
    refine z_istore_n dX12_wrong_34 (by decide) (ls' := [.ref 0, .int (((1 : Int32) <<< (r9 &&& 31)) - (1 : Int32)), zU, zU, zU]) rfl ?_
    refine z_iconst (v := (0 : Int32)) dX12_wrong_35 rfl ?_
    refine z_istore_n dX12_wrong_36 (by decide) (ls' := [.ref 0, .int (((1 : Int32) <<< (r9 &&& 31)) - (1 : Int32)), .int (0 : Int32), zU, zU]) rfl ?_
    exact h8
  · have h6 := h2.2 g4
    refine z_iconst (v := (0 : Int32)) dX12_wrong_24 rfl ?_
    exact z_iret dX12_wrong_25 rfl rfl (by decide) h6
theorem t_X12_wrong_37 {E : zEv} {D : Nat} {post : Int32 → zM → Prop} {px : String → zM → Prop} {M : zM}   {y1 : Int32} {y2 : Int32} (h : zCi E jX12_women D 0 [.ref 0] M (fun r3 M1 => ((((1 : Int32) <<< (r3 &&& 31)) ≤ y2 → post y1 M1) ∧ (¬ ((1 : Int32) <<< (r3 &&& 31)) ≤ y2 → zCi E jJ6_bitCount_0f7a4 D 0 [.int y2] M1 (fun r9 M7 => zCi E jJ6_bitCount_0f7a4 D 0 [.int y1] M7 (fun r12 M10 => ((r12 ≤ r9 → w_X12_wrong_63 E D post px y1 y2 (0 : Int32) M10) ∧ (¬ r12 ≤ r9 → w_X12_wrong_63 E D post px y1 y2 (1 : Int32) M10))) px) px))) px) : w_X12_wrong_37 E D post px y1 y2 M := by
  show Z E jX12_wrong (D + 1) 0 (zQi post px) 37 0 [.ref 0, .int y1, .int y2, zU, zU] [] M
  refine z_iload_n dX12_wrong_37 rfl ?_
  refine z_iconst (v := (1 : Int32)) dX12_wrong_38 rfl ?_
  refine z_aload_n dX12_wrong_39 rfl ?_
  refine z_callVi (As := []) (st := [.int (1 : Int32), .int y2]) dX12_wrong_40 zi_X12_102 rfl rfl zs_0 rfl rfl (Nat.le_of_ble_eq_true rfl) (by decide) (fun _ _ hx => hx) h ?_
  intro r3 M1 h2
  refine z_ishl dX12_wrong_43 ?_
  refine z_icmp_ge (tgt := 118) dX12_wrong_44 (by decide) (fun g4 => ?_) (fun g4 => ?_)
  · have h5 := h2.1 g4
    refine z_iload_n dX12_wrong_118 rfl ?_
    exact z_iret dX12_wrong_119 rfl rfl (by decide) h5
  · have h6 := h2.2 g4
    refine z_iload_n dX12_wrong_47 rfl ?_
    refine z_callSi (As := [.int y2]) (st := []) dX12_wrong_48 zi_X12_443 rfl rfl (Nat.le_of_ble_eq_true rfl) (by decide) (fun _ _ hx => hx) h6 ?_
    intro r9 M7 h8
    refine z_iload_n dX12_wrong_51 rfl ?_
    refine z_callSi (As := [.int y1]) (st := [.int r9]) dX12_wrong_52 zi_X12_443 rfl rfl (Nat.le_of_ble_eq_true rfl) (by decide) (fun _ _ hx => hx) h8 ?_
    intro r12 M10 h11
    refine z_icmp_ge (tgt := 62) dX12_wrong_55 (by decide) (fun g13 => ?_) (fun g13 => ?_)
    · have h14 := h11.1 g13
      refine z_iconst (v := (0 : Int32)) dX12_wrong_62 rfl ?_
      exact h14
    · have h15 := h11.2 g13
      refine z_iconst (v := (1 : Int32)) dX12_wrong_58 rfl ?_
      refine z_goto (tgt := 63) dX12_wrong_59 (by decide) ?_
      exact h15
theorem t_X12_wrong_63 {E : zEv} {D : Nat} {post : Int32 → zM → Prop} {px : String → zM → Prop} {M : zM}   {y1 : Int32} {y2 : Int32} {s0 : Int32} (h : w_X12_wrong_67 E D post px y1 y2 s0 (0 : Int32) M) : w_X12_wrong_63 E D post px y1 y2 s0 M := by
  show Z E jX12_wrong (D + 1) 0 (zQi post px) 63 0 [.ref 0, .int y1, .int y2, zU, zU] [.int s0] M
  refine z_istore_n dX12_wrong_63 (by decide) (ls' := [.ref 0, .int y1, .int y2, .int s0, zU]) rfl ?_
  refine z_iconst (v := (0 : Int32)) dX12_wrong_64 rfl ?_
  refine z_istore dX12_wrong_65 (by decide) (ls' := [.ref 0, .int y1, .int y2, .int s0, .int (0 : Int32)]) rfl ?_
  exact h
theorem t_X12_wrong_67 {E : zEv} {D : Nat} {post : Int32 → zM → Prop} {px : String → zM → Prop} {M : zM}   {y1 : Int32} {y2 : Int32} {y3 : Int32} {y4 : Int32} (h : zCi E jX12_witnesses D 0 [.ref 0] M (fun r3 M1 => ((r3 ≤ y4 → w_X12_wrong_102 E D post px y1 y2 y3 M1) ∧ (¬ r3 ≤ y4 → ((y3 = 0 → w_X12_wrong_102 E D post px y1 y2 y3 M1) ∧ (¬ y3 = 0 → zCi E jX12_shadesLeft D 0 [.ref 0, .int y4, .int y2] M1 (fun r12 M10 => ((r12 ≤ 0 → w_X12_wrong_95 E D post px y1 y2 y4 (0 : Int32) M10) ∧ (¬ r12 ≤ 0 → w_X12_wrong_95 E D post px y1 y2 y4 (1 : Int32) M10))) px))))) px) : w_X12_wrong_67 E D post px y1 y2 y3 y4 M := by
  show Z E jX12_wrong (D + 1) 0 (zQi post px) 67 0 [.ref 0, .int y1, .int y2, .int y3, .int y4] [] M
  refine z_iload dX12_wrong_67 rfl ?_
  refine z_aload_n dX12_wrong_69 rfl ?_
  refine z_callVi (As := []) (st := [.int y4]) dX12_wrong_70 zi_X12_92 rfl rfl zs_0 rfl rfl (Nat.le_of_ble_eq_true rfl) (by decide) (fun _ _ hx => hx) h ?_
  intro r3 M1 h2
  refine z_icmp_ge (tgt := 102) dX12_wrong_73 (by decide) (fun g4 => ?_) (fun g4 => ?_)
  · have h5 := h2.1 g4
    refine z_weak [true, true, true, true, false] (ls' := [.ref 0, .int y1, .int y2, .int y3, zU]) rfl rfl ?_
    exact h5
  · have h6 := h2.2 g4
    refine z_iload_n dX12_wrong_76 rfl ?_
    refine z_if_eq (tgt := 102) dX12_wrong_77 (by decide) (fun g7 => ?_) (fun g7 => ?_)
    · have h8 := h6.1 g7
      refine z_weak [true, true, true, true, false] (ls' := [.ref 0, .int y1, .int y2, .int y3, zU]) rfl rfl ?_
      exact h8
    · have h9 := h6.2 g7
      refine z_aload_n dX12_wrong_80 rfl ?_
      refine z_iload dX12_wrong_81 rfl ?_
      refine z_iload_n dX12_wrong_83 rfl ?_
      refine z_callVi (As := [.int y4, .int y2]) (st := []) dX12_wrong_84 zi_X12_475 rfl rfl zs_0 rfl rfl (Nat.le_of_ble_eq_true rfl) (by decide) (fun _ _ hx => hx) h9 ?_
      intro r12 M10 h11
      refine z_if_le (tgt := 94) dX12_wrong_87 (by decide) (fun g13 => ?_) (fun g13 => ?_)
      · have h14 := h11.1 g13
        refine z_iconst (v := (0 : Int32)) dX12_wrong_94 rfl ?_
        refine z_weak [true, true, true, false, true] (ls' := [.ref 0, .int y1, .int y2, zU, .int y4]) rfl rfl ?_
        exact h14
      · have h15 := h11.2 g13
        refine z_iconst (v := (1 : Int32)) dX12_wrong_90 rfl ?_
        refine z_goto (tgt := 95) dX12_wrong_91 (by decide) ?_
        refine z_weak [true, true, true, false, true] (ls' := [.ref 0, .int y1, .int y2, zU, .int y4]) rfl rfl ?_
        exact h15
theorem t_X12_wrong_102 {E : zEv} {D : Nat} {post : Int32 → zM → Prop} {px : String → zM → Prop} {M : zM}   {y1 : Int32} {y2 : Int32} {y3 : Int32} (h : ((y3 = 0 → w_X12_wrong_111 E D post px y2 y1 M) ∧ (¬ y3 = 0 → w_X12_wrong_111 E D post px y2 y2 M))) : w_X12_wrong_102 E D post px y1 y2 y3 M := by
  show Z E jX12_wrong (D + 1) 0 (zQi post px) 102 0 [.ref 0, .int y1, .int y2, .int y3, zU] [] M
  refine z_iload_n dX12_wrong_102 rfl ?_
  refine z_if_eq (tgt := 110) dX12_wrong_103 (by decide) (fun g1 => ?_) (fun g1 => ?_)
  · have h2 := h.1 g1
    refine z_iload_n dX12_wrong_110 rfl ?_
    refine z_weak [true, false, true, false, false] (ls' := [.ref 0, zU, .int y2, zU, zU]) rfl rfl ?_
    exact h2
  · have h3 := h.2 g1
    refine z_iload_n dX12_wrong_106 rfl ?_
    refine z_goto (tgt := 111) dX12_wrong_107 (by decide) ?_
    refine z_weak [true, false, true, false, false] (ls' := [.ref 0, zU, .int y2, zU, zU]) rfl rfl ?_
    exact h3
theorem t_X12_wrong_95 {E : zEv} {D : Nat} {post : Int32 → zM → Prop} {px : String → zM → Prop} {M : zM}   {y1 : Int32} {y2 : Int32} {y4 : Int32} {s0 : Int32} (h : w_X12_wrong_67 E D post px y1 y2 s0 (y4 + (1 : Int32)) M) : w_X12_wrong_95 E D post px y1 y2 y4 s0 M := by
  show Z E jX12_wrong (D + 1) 0 (zQi post px) 95 0 [.ref 0, .int y1, .int y2, zU, .int y4] [.int s0] M
  refine z_istore_n dX12_wrong_95 (by decide) (ls' := [.ref 0, .int y1, .int y2, .int s0, .int y4]) rfl ?_
  refine z_iinc dX12_wrong_96 rfl (by decide) (ls' := [.ref 0, .int y1, .int y2, .int s0, .int (y4 + (1 : Int32))]) rfl ?_
  refine z_goto (tgt := 67) dX12_wrong_99 (by decide) ?_
  exact h
theorem t_X12_wrong_111 {E : zEv} {D : Nat} {post : Int32 → zM → Prop} {px : String → zM → Prop} {M : zM}   {y2 : Int32} {s0 : Int32} (h : w_X12_wrong_37 E D post px s0 (y2 + (1 : Int32)) M) : w_X12_wrong_111 E D post px y2 s0 M := by
  show Z E jX12_wrong (D + 1) 0 (zQi post px) 111 0 [.ref 0, zU, .int y2, zU, zU] [.int s0] M
  refine z_istore_n dX12_wrong_111 (by decide) (ls' := [.ref 0, .int s0, .int y2, zU, zU]) rfl ?_
  refine z_iinc dX12_wrong_112 rfl (by decide) (ls' := [.ref 0, .int s0, .int (y2 + (1 : Int32)), zU, zU]) rfl ?_
  refine z_goto (tgt := 37) dX12_wrong_115 (by decide) ?_
  exact h
def w_X12_shades_37 (E : zEv) (D : Nat) (post : Int32 → zM → Prop) (px : String → zM → Prop)   (M : zM) : Prop := Z E jX12_shades (D + 1) 0 (zQi post px) 37 0 [zU, zU] [] M
def w_X12_shades_30 (E : zEv) (D : Nat) (post : Int32 → zM → Prop) (px : String → zM → Prop)  (y1 : Int32) (s0 : Int32) (M : zM) : Prop := Z E jX12_shades (D + 1) 0 (zQi post px) 30 0 [.ref 0, .int y1] [.int s0, .ref 0] M
def w_X12_shades_47 (E : zEv) (D : Nat) (post : Int32 → zM → Prop) (px : String → zM → Prop)  (s0 : Int32) (M : zM) : Prop := Z E jX12_shades (D + 1) 0 (zQi post px) 47 0 [zU, zU] [.int s0] M
theorem e_X12_shades {E : zEv} {D : Nat} {post : Int32 → zM → Prop} {px : String → zM → Prop} {M : zM} {x1 : Int32}  (h : zCv E jX12_uses D 0 [.ref 0] M (fun M1 => zCi E jX12_noWitness D 0 [.ref 0, .int x1] M1 (fun r5 M3 => zCi E jX12_throwsIf D 0 [.ref 0, .int r5, .int (1 : Int32)] M3 (fun r8 M6 => ((¬ r8 = 0 → w_X12_shades_37 E D post px  M6) ∧ (r8 = 0 → zCi E jX12_isWritten D 0 [.ref 0] M6 (fun r14 M12 => ((¬ r14 = 0 → w_X12_shades_30 E D post px x1 (0 : Int32) M12) ∧ (r14 = 0 → w_X12_shades_30 E D post px x1 (1 : Int32) M12))) px))) px) px) px) : zCi E jX12_shades (D + 1) 0 [.ref 0, .int x1] M post px := by
  refine z_meth (by decide) (Nat.le_of_ble_eq_true rfl) ?_
  show Z E jX12_shades (D + 1) 0 (zQi post px) 0 0 [.ref 0, .int x1] [] M
  refine z_aload_n dX12_shades_0 rfl ?_
  refine z_callVv (As := []) (st := []) dX12_shades_1 zi_X12_271 rfl rfl zs_0 rfl rfl (Nat.le_of_ble_eq_true rfl) (by decide) (fun _ _ hx => hx) h ?_
  intro M1 h2
  refine z_aload_n dX12_shades_4 rfl ?_
  refine z_aload_n dX12_shades_5 rfl ?_
  refine z_iload_n dX12_shades_6 rfl ?_
  refine z_callVi (As := [.int x1]) (st := [.ref 0]) dX12_shades_7 zi_X12_370 rfl rfl zs_0 rfl rfl (Nat.le_of_ble_eq_true rfl) (by decide) (fun _ _ hx => hx) h2 ?_
  intro r5 M3 h4
  refine z_iconst (v := (1 : Int32)) dX12_shades_10 rfl ?_
  refine z_callVi (As := [.int r5, .int (1 : Int32)]) (st := []) dX12_shades_11 zi_X12_282 rfl rfl zs_0 rfl rfl (Nat.le_of_ble_eq_true rfl) (by decide) (fun _ _ hx => hx) h4 ?_
  intro r8 M6 h7
  refine z_if_ne (tgt := 37) dX12_shades_14 (by decide) (fun g9 => ?_) (fun g9 => ?_)
  · have h10 := h7.1 g9
    refine z_weak [false, false] (ls' := [zU, zU]) rfl rfl ?_
    exact h10
  · have h11 := h7.2 g9
    refine z_aload_n dX12_shades_17 rfl ?_
    refine z_aload_n dX12_shades_18 rfl ?_
    refine z_callVi (As := []) (st := [.ref 0]) dX12_shades_19 zi_X12_472 rfl rfl zs_0 rfl rfl (Nat.le_of_ble_eq_true rfl) (by decide) (fun _ _ hx => hx) h11 ?_
    intro r14 M12 h13
    refine z_if_ne (tgt := 29) dX12_shades_22 (by decide) (fun g15 => ?_) (fun g15 => ?_)
    · have h16 := h13.1 g15
      refine z_iconst (v := (0 : Int32)) dX12_shades_29 rfl ?_
      exact h16
    · have h17 := h13.2 g15
      refine z_iconst (v := (1 : Int32)) dX12_shades_25 rfl ?_
      refine z_goto (tgt := 30) dX12_shades_26 (by decide) ?_
      exact h17
theorem t_X12_shades_37 {E : zEv} {D : Nat} {post : Int32 → zM → Prop} {px : String → zM → Prop} {M : zM}    (h : w_X12_shades_47 E D post px (0 : Int32) M) : w_X12_shades_37 E D post px  M := by
  show Z E jX12_shades (D + 1) 0 (zQi post px) 37 0 [zU, zU] [] M
  refine z_iconst (v := (0 : Int32)) dX12_shades_37 rfl ?_
  refine z_goto (tgt := 47) dX12_shades_38 (by decide) ?_
  exact h
theorem t_X12_shades_30 {E : zEv} {D : Nat} {post : Int32 → zM → Prop} {px : String → zM → Prop} {M : zM}   {y1 : Int32} {s0 : Int32} (h : zCi E jX12_throwsIf D 0 [.ref 0, .int s0, .int (2 : Int32)] M (fun r3 M1 => ((r3 = 0 → zCi E jX12_shadesLeft D 0 [.ref 0, .int y1, .int (0 : Int32)] M1 (fun r9 M7 => w_X12_shades_47 E D post px r9 M7) px) ∧ (¬ r3 = 0 → w_X12_shades_37 E D post px  M1))) px) : w_X12_shades_30 E D post px y1 s0 M := by
  show Z E jX12_shades (D + 1) 0 (zQi post px) 30 0 [.ref 0, .int y1] [.int s0, .ref 0] M
  refine z_iconst (v := (2 : Int32)) dX12_shades_30 rfl ?_
  refine z_callVi (As := [.int s0, .int (2 : Int32)]) (st := []) dX12_shades_31 zi_X12_282 rfl rfl zs_0 rfl rfl (Nat.le_of_ble_eq_true rfl) (by decide) (fun _ _ hx => hx) h ?_
  intro r3 M1 h2
  refine z_if_eq (tgt := 41) dX12_shades_34 (by decide) (fun g4 => ?_) (fun g4 => ?_)
  · have h5 := h2.1 g4
    refine z_aload_n dX12_shades_41 rfl ?_
    refine z_iload_n dX12_shades_42 rfl ?_
    refine z_iconst (v := (0 : Int32)) dX12_shades_43 rfl ?_
    refine z_callVi (As := [.int y1, .int (0 : Int32)]) (st := []) dX12_shades_44 zi_X12_475 rfl rfl zs_0 rfl rfl (Nat.le_of_ble_eq_true rfl) (by decide) (fun _ _ hx => hx) h5 ?_
    intro r9 M7 h8
    refine z_weak [false, false] (ls' := [zU, zU]) rfl rfl ?_
    exact h8
  · have h6 := h2.2 g4
    refine z_weak [false, false] (ls' := [zU, zU]) rfl rfl ?_
    exact h6
theorem t_X12_shades_47 {E : zEv} {D : Nat} {post : Int32 → zM → Prop} {px : String → zM → Prop} {M : zM}   {s0 : Int32} (h : post s0 M) : w_X12_shades_47 E D post px s0 M := by
  show Z E jX12_shades (D + 1) 0 (zQi post px) 47 0 [zU, zU] [.int s0] M
  exact z_iret dX12_shades_47 rfl rfl (by decide) h
def w_X12_vinegar_22 (E : zEv) (D : Nat) (post : Int32 → zM → Prop) (px : String → zM → Prop)  (y1 : Int32) (y2 : Int32) (M : zM) : Prop := Z E jX12_vinegar (D + 1) 0 (zQi post px) 22 0 [.ref 0, .int y1, .int y2, zU, zU, zU] [.ref 0] M
def w_X12_vinegar_27 (E : zEv) (D : Nat) (post : Int32 → zM → Prop) (px : String → zM → Prop)  (y1 : Int32) (y2 : Int32) (s0 : Int32) (M : zM) : Prop := Z E jX12_vinegar (D + 1) 0 (zQi post px) 27 0 [.ref 0, .int y1, .int y2, zU, zU, zU] [.int s0, .ref 0] M
def w_X12_vinegar_50 (E : zEv) (D : Nat) (post : Int32 → zM → Prop) (px : String → zM → Prop)  (y1 : Int32) (y2 : Int32) (y3 : Int32) (y4 : Int32) (y5 : Int32) (M : zM) : Prop := Z E jX12_vinegar (D + 1) 0 (zQi post px) 50 0 [.ref 0, .int y1, .int y2, .int y3, .int y4, .int y5] [] M
def w_X12_vinegar_88 (E : zEv) (D : Nat) (post : Int32 → zM → Prop) (px : String → zM → Prop)  (y1 : Int32) (y2 : Int32) (y3 : Int32) (y5 : Int32) (s0 : Int32) (M : zM) : Prop := Z E jX12_vinegar (D + 1) 0 (zQi post px) 88 0 [.ref 0, .int y1, .int y2, .int y3, zU, .int y5] [.int s0] M
theorem e_X12_vinegar {E : zEv} {D : Nat} {post : Int32 → zM → Prop} {px : String → zM → Prop} {M : zM} {x1 : Int32} {x2 : Int32}  (h : ∀ M1 : zM, M1 = zup M 0 0 (0 : Int32) → zCi E jX12_noWitness D 0 [.ref 0, .int x1] M1 (fun r5 M3 => ((¬ r5 = 0 → w_X12_vinegar_22 E D post px x1 x2 M3) ∧ (r5 = 0 → zCi E jX12_noQuestion D 0 [.ref 0, .int x2] M3 (fun r11 M9 => ((r11 = 0 → w_X12_vinegar_27 E D post px x1 x2 (0 : Int32) M9) ∧ (¬ r11 = 0 → w_X12_vinegar_22 E D post px x1 x2 M9))) px))) px) : zCi E jX12_vinegar (D + 1) 0 [.ref 0, .int x1, .int x2] M post px := by
  refine z_meth (by decide) (Nat.le_of_ble_eq_true rfl) ?_
  show Z E jX12_vinegar (D + 1) 0 (zQi post px) 0 0 [.ref 0, .int x1, .int x2, zU, zU, zU] [] M
  refine z_aload_n dX12_vinegar_0 rfl ?_
  refine z_iconst (v := (0 : Int32)) dX12_vinegar_1 rfl ?_
  refine z_putI dX12_vinegar_2 zp_X12_3 zs_0 rfl rfl rfl ?_
  generalize hhM1 : zup M 0 0 (0 : Int32) = M1
  have h2 := h M1 hhM1.symm
  refine z_aload_n dX12_vinegar_5 rfl ?_
  refine z_aload_n dX12_vinegar_6 rfl ?_
  refine z_iload_n dX12_vinegar_7 rfl ?_
  refine z_callVi (As := [.int x1]) (st := [.ref 0]) dX12_vinegar_8 zi_X12_370 rfl rfl zs_0 rfl rfl (Nat.le_of_ble_eq_true rfl) (by decide) (fun _ _ hx => hx) h2 ?_
  intro r5 M3 h4
  refine z_if_ne (tgt := 22) dX12_vinegar_11 (by decide) (fun g6 => ?_) (fun g6 => ?_)
  · have h7 := h4.1 g6
    exact h7
  · have h8 := h4.2 g6
    refine z_aload_n dX12_vinegar_14 rfl ?_
    refine z_iload_n dX12_vinegar_15 rfl ?_
    refine z_callVi (As := [.int x2]) (st := [.ref 0]) dX12_vinegar_16 zi_X12_391 rfl rfl zs_0 rfl rfl (Nat.le_of_ble_eq_true rfl) (by decide) (fun _ _ hx => hx) h8 ?_
    intro r11 M9 h10
    refine z_if_eq (tgt := 26) dX12_vinegar_19 (by decide) (fun g12 => ?_) (fun g12 => ?_)
    · have h13 := h10.1 g12
      refine z_iconst (v := (0 : Int32)) dX12_vinegar_26 rfl ?_
      exact h13
    · have h14 := h10.2 g12
      exact h14
theorem t_X12_vinegar_22 {E : zEv} {D : Nat} {post : Int32 → zM → Prop} {px : String → zM → Prop} {M : zM}   {y1 : Int32} {y2 : Int32} (h : w_X12_vinegar_27 E D post px y1 y2 (1 : Int32) M) : w_X12_vinegar_22 E D post px y1 y2 M := by
  show Z E jX12_vinegar (D + 1) 0 (zQi post px) 22 0 [.ref 0, .int y1, .int y2, zU, zU, zU] [.ref 0] M
  refine z_iconst (v := (1 : Int32)) dX12_vinegar_22 rfl ?_
  refine z_goto (tgt := 27) dX12_vinegar_23 (by decide) ?_
  exact h
theorem t_X12_vinegar_27 {E : zEv} {D : Nat} {post : Int32 → zM → Prop} {px : String → zM → Prop} {M : zM}   {y1 : Int32} {y2 : Int32} {s0 : Int32} (h : zCi E jX12_throwsIf D 0 [.ref 0, .int s0, .int (1 : Int32)] M (fun r3 M1 => ((r3 = 0 → zCi E jX12_of D 0 [.ref 0, .int y1, .int (2 : Int32)] M1 (fun r9 M7 => w_X12_vinegar_50 E D post px y1 y2 r9 (-1 : Int32) (99 : Int32) M7) px) ∧ (¬ r3 = 0 → post (0 : Int32) M1))) px) : w_X12_vinegar_27 E D post px y1 y2 s0 M := by
  show Z E jX12_vinegar (D + 1) 0 (zQi post px) 27 0 [.ref 0, .int y1, .int y2, zU, zU, zU] [.int s0, .ref 0] M
  refine z_iconst (v := (1 : Int32)) dX12_vinegar_27 rfl ?_
  refine z_callVi (As := [.int s0, .int (1 : Int32)]) (st := []) dX12_vinegar_28 zi_X12_282 rfl rfl zs_0 rfl rfl (Nat.le_of_ble_eq_true rfl) (by decide) (fun _ _ hx => hx) h ?_
  intro r3 M1 h2
  refine z_if_eq (tgt := 36) dX12_vinegar_31 (by decide) (fun g4 => ?_) (fun g4 => ?_)
  · have h5 := h2.1 g4
    refine z_aload_n dX12_vinegar_36 rfl ?_
    refine z_iload_n dX12_vinegar_37 rfl ?_
    refine z_iconst (v := (2 : Int32)) dX12_vinegar_38 rfl ?_
    refine z_callVi (As := [.int y1, .int (2 : Int32)]) (st := []) dX12_vinegar_39 zi_X12_285 rfl rfl zs_0 rfl rfl (Nat.le_of_ble_eq_true rfl) (by decide) (fun _ _ hx => hx) h5 ?_
    intro r9 M7 h8
    refine z_istore_n dX12_vinegar_42 (by decide) (ls' := [.ref 0, .int y1, .int y2, .int r9, zU, zU]) rfl ?_
    refine z_iconst (v := (-1 : Int32)) dX12_vinegar_43 rfl ?_
    refine z_istore dX12_vinegar_44 (by decide) (ls' := [.ref 0, .int y1, .int y2, .int r9, .int (-1 : Int32), zU]) rfl ?_
    refine z_bipush (v := (99 : Int32)) dX12_vinegar_46 rfl ?_
    refine z_istore dX12_vinegar_48 (by decide) (ls' := [.ref 0, .int y1, .int y2, .int r9, .int (-1 : Int32), .int (99 : Int32)]) rfl ?_
    exact h8
  · have h6 := h2.2 g4
    refine z_iconst (v := (0 : Int32)) dX12_vinegar_34 rfl ?_
    exact z_iret dX12_vinegar_35 rfl rfl (by decide) h6
theorem t_X12_vinegar_50 {E : zEv} {D : Nat} {post : Int32 → zM → Prop} {px : String → zM → Prop} {M : zM}   {y1 : Int32} {y2 : Int32} {y3 : Int32} {y4 : Int32} {y5 : Int32} (h : ((y5 < 0 → zCi E jX12_at D 0 [.int y1, .int (2 : Int32)] M (fun r6 M4 => vp_in r6 2070 ∧ ∀ M9 : zM, M9 = zup M4 1 (r6).toNatClampNeg y3 → post y4 M9) px) ∧ (¬ y5 < 0 → zCi E jX12_at D 0 [.int y1, .int (2 : Int32)] M (fun r13 M11 => vp_in r13 2070 ∧ ∀ M16 : zM, M16 = zup M11 1 (r13).toNatClampNeg y5 → zCi E jX12_risesBy D 0 [.ref 0, .int y2, .int y1] M16 (fun r20 M18 => zCi E jX12_someSees D 0 [.ref 0, .int y1, .int r20] M18 (fun r23 M21 => ((r23 = 0 → w_X12_vinegar_88 E D post px y1 y2 y3 y5 y5 M21) ∧ (¬ r23 = 0 → w_X12_vinegar_88 E D post px y1 y2 y3 y5 y4 M21))) px) px) px))) : w_X12_vinegar_50 E D post px y1 y2 y3 y4 y5 M := by
  show Z E jX12_vinegar (D + 1) 0 (zQi post px) 50 0 [.ref 0, .int y1, .int y2, .int y3, .int y4, .int y5] [] M
  refine z_iload dX12_vinegar_50 rfl ?_
  refine z_if_lt (tgt := 96) dX12_vinegar_52 (by decide) (fun g1 => ?_) (fun g1 => ?_)
  · have h2 := h.1 g1
    refine z_aload_n dX12_vinegar_96 rfl ?_
    refine z_getR dX12_vinegar_97 zg_X12_13 zs_0 rfl ?_
    refine z_iload_n dX12_vinegar_100 rfl ?_
    refine z_iconst (v := (2 : Int32)) dX12_vinegar_101 rfl ?_
    refine z_callSi (As := [.int y1, .int (2 : Int32)]) (st := [.ref 1]) dX12_vinegar_102 zi_X12_78 rfl rfl (Nat.le_of_ble_eq_true rfl) (by decide) (fun _ _ hx => hx) h2 ?_
    intro r6 M4 h5
    refine z_iload_n dX12_vinegar_105 rfl ?_
    obtain ⟨g8, h7⟩ := h5
    refine z_iast dX12_vinegar_106 zs_1 g8 ?_
    generalize hhM9 : zup M4 1 (r6).toNatClampNeg y3 = M9
    have h10 := h7 M9 hhM9.symm
    refine z_iload dX12_vinegar_107 rfl ?_
    exact z_iret dX12_vinegar_109 rfl rfl (by decide) h10
  · have h3 := h.2 g1
    refine z_aload_n dX12_vinegar_55 rfl ?_
    refine z_getR dX12_vinegar_56 zg_X12_13 zs_0 rfl ?_
    refine z_iload_n dX12_vinegar_59 rfl ?_
    refine z_iconst (v := (2 : Int32)) dX12_vinegar_60 rfl ?_
    refine z_callSi (As := [.int y1, .int (2 : Int32)]) (st := [.ref 1]) dX12_vinegar_61 zi_X12_78 rfl rfl (Nat.le_of_ble_eq_true rfl) (by decide) (fun _ _ hx => hx) h3 ?_
    intro r13 M11 h12
    refine z_iload dX12_vinegar_64 rfl ?_
    obtain ⟨g15, h14⟩ := h12
    refine z_iast dX12_vinegar_66 zs_1 g15 ?_
    generalize hhM16 : zup M11 1 (r13).toNatClampNeg y5 = M16
    have h17 := h14 M16 hhM16.symm
    refine z_aload_n dX12_vinegar_67 rfl ?_
    refine z_iload_n dX12_vinegar_68 rfl ?_
    refine z_aload_n dX12_vinegar_69 rfl ?_
    refine z_iload_n dX12_vinegar_70 rfl ?_
    refine z_iload_n dX12_vinegar_71 rfl ?_
    refine z_callVi (As := [.int y2, .int y1]) (st := [.int y1, .ref 0]) dX12_vinegar_72 zi_X12_364 rfl rfl zs_0 rfl rfl (Nat.le_of_ble_eq_true rfl) (by decide) (fun _ _ hx => hx) h17 ?_
    intro r20 M18 h19
    refine z_callVi (As := [.int y1, .int r20]) (st := []) dX12_vinegar_75 zi_X12_367 rfl rfl zs_0 rfl rfl (Nat.le_of_ble_eq_true rfl) (by decide) (fun _ _ hx => hx) h19 ?_
    intro r23 M21 h22
    refine z_if_eq (tgt := 86) dX12_vinegar_78 (by decide) (fun g24 => ?_) (fun g24 => ?_)
    · have h25 := h22.1 g24
      refine z_iload dX12_vinegar_86 rfl ?_
      refine z_weak [true, true, true, true, false, true] (ls' := [.ref 0, .int y1, .int y2, .int y3, zU, .int y5]) rfl rfl ?_
      exact h25
    · have h26 := h22.2 g24
      refine z_iload dX12_vinegar_81 rfl ?_
      refine z_goto (tgt := 88) dX12_vinegar_83 (by decide) ?_
      refine z_weak [true, true, true, true, false, true] (ls' := [.ref 0, .int y1, .int y2, .int y3, zU, .int y5]) rfl rfl ?_
      exact h26
theorem t_X12_vinegar_88 {E : zEv} {D : Nat} {post : Int32 → zM → Prop} {px : String → zM → Prop} {M : zM}   {y1 : Int32} {y2 : Int32} {y3 : Int32} {y5 : Int32} {s0 : Int32} (h : w_X12_vinegar_50 E D post px y1 y2 y3 s0 (y5 + (-1 : Int32)) M) : w_X12_vinegar_88 E D post px y1 y2 y3 y5 s0 M := by
  show Z E jX12_vinegar (D + 1) 0 (zQi post px) 88 0 [.ref 0, .int y1, .int y2, .int y3, zU, .int y5] [.int s0] M
  refine z_istore dX12_vinegar_88 (by decide) (ls' := [.ref 0, .int y1, .int y2, .int y3, .int s0, .int y5]) rfl ?_
  refine z_iinc dX12_vinegar_90 rfl (by decide) (ls' := [.ref 0, .int y1, .int y2, .int y3, .int s0, .int (y5 + (-1 : Int32))]) rfl ?_
  refine z_goto (tgt := 50) dX12_vinegar_93 (by decide) ?_
  exact h
def w_X12_betrays_16 (E : zEv) (D : Nat) (post : Int32 → zM → Prop) (px : String → zM → Prop)  (y1 : Int32) (y2 : Int32) (y3 : Int32) (y4 : Int32) (M : zM) : Prop := Z E jX12_betrays (D + 1) 0 (zQi post px) 16 0 [.ref 0, .int y1, .int y2, .int y3, .int y4] [] M
def w_X12_betrays_59 (E : zEv) (D : Nat) (post : Int32 → zM → Prop) (px : String → zM → Prop)  (y1 : Int32) (y2 : Int32) (y4 : Int32) (M : zM) : Prop := Z E jX12_betrays (D + 1) 0 (zQi post px) 59 0 [.ref 0, .int y1, .int y2, zU, .int y4] [] M
def w_X12_betrays_63 (E : zEv) (D : Nat) (post : Int32 → zM → Prop) (px : String → zM → Prop)  (y1 : Int32) (y2 : Int32) (y4 : Int32) (M : zM) : Prop := Z E jX12_betrays (D + 1) 0 (zQi post px) 63 0 [.ref 0, .int y1, .int y2, zU, .int y4] [] M
def w_X12_betrays_64 (E : zEv) (D : Nat) (post : Int32 → zM → Prop) (px : String → zM → Prop)  (y1 : Int32) (y2 : Int32) (y4 : Int32) (s0 : Int32) (M : zM) : Prop := Z E jX12_betrays (D + 1) 0 (zQi post px) 64 0 [.ref 0, .int y1, .int y2, zU, .int y4] [.int s0] M
theorem e_X12_betrays {E : zEv} {D : Nat} {post : Int32 → zM → Prop} {px : String → zM → Prop} {M : zM} {x1 : Int32} {x2 : Int32}  (h : zCi E jX12_noTwo D 0 [.ref 0, .int x1, .int x2] M (fun r3 M1 => ((r3 = 0 → w_X12_betrays_16 E D post px x1 x2 (0 : Int32) (0 : Int32) M1) ∧ (¬ r3 = 0 → post (0 : Int32) M1))) px) : zCi E jX12_betrays (D + 1) 0 [.ref 0, .int x1, .int x2] M post px := by
  refine z_meth (by decide) (Nat.le_of_ble_eq_true rfl) ?_
  show Z E jX12_betrays (D + 1) 0 (zQi post px) 0 0 [.ref 0, .int x1, .int x2, zU, zU] [] M
  refine z_aload_n dX12_betrays_0 rfl ?_
  refine z_iload_n dX12_betrays_1 rfl ?_
  refine z_iload_n dX12_betrays_2 rfl ?_
  refine z_callVi (As := [.int x1, .int x2]) (st := []) dX12_betrays_3 zi_X12_397 rfl rfl zs_0 rfl rfl (Nat.le_of_ble_eq_true rfl) (by decide) (fun _ _ hx => hx) h ?_
  intro r3 M1 h2
  refine z_if_eq (tgt := 11) dX12_betrays_6 (by decide) (fun g4 => ?_) (fun g4 => ?_)
  · have h5 := h2.1 g4
    refine z_iconst (v := (0 : Int32)) dX12_betrays_11 rfl ?_
    refine z_istore_n dX12_betrays_12 (by decide) (ls' := [.ref 0, .int x1, .int x2, .int (0 : Int32), zU]) rfl ?_
    refine z_iconst (v := (0 : Int32)) dX12_betrays_13 rfl ?_
    refine z_istore dX12_betrays_14 (by decide) (ls' := [.ref 0, .int x1, .int x2, .int (0 : Int32), .int (0 : Int32)]) rfl ?_
    exact h5
  · have h6 := h2.2 g4
    refine z_iconst (v := (0 : Int32)) dX12_betrays_9 rfl ?_
    exact z_iret dX12_betrays_10 rfl (by decide) (by decide) h6
theorem t_X12_betrays_16 {E : zEv} {D : Nat} {post : Int32 → zM → Prop} {px : String → zM → Prop} {M : zM}   {y1 : Int32} {y2 : Int32} {y3 : Int32} {y4 : Int32} (h : zCi E jX12_questions D 0 [.ref 0] M (fun r3 M1 => ((r3 ≤ y4 → (y3 = 0 ∨ y3 = 1) ∧ post y3 M1) ∧ (¬ r3 ≤ y4 → ((¬ y3 = 0 → w_X12_betrays_59 E D post px y1 y2 y4 M1) ∧ (y3 = 0 → zCi E jX12_isTouched D 0 [.ref 0, .int y4, .int y1] M1 (fun r14 M12 => ((r14 = 0 → w_X12_betrays_63 E D post px y1 y2 y4 M12) ∧ (¬ r14 = 0 → zCi E jX12_isTouched D 0 [.ref 0, .int y4, .int y2] M12 (fun r20 M18 => ((¬ r20 = 0 → w_X12_betrays_63 E D post px y1 y2 y4 M18) ∧ (r20 = 0 → zCi E jX12_risesBy D 0 [.ref 0, .int y4, .int y2] M18 (fun r26 M24 => ((r26 ≤ 0 → w_X12_betrays_63 E D post px y1 y2 y4 M24) ∧ (¬ r26 ≤ 0 → w_X12_betrays_59 E D post px y1 y2 y4 M24))) px))) px))) px))))) px) : w_X12_betrays_16 E D post px y1 y2 y3 y4 M := by
  show Z E jX12_betrays (D + 1) 0 (zQi post px) 16 0 [.ref 0, .int y1, .int y2, .int y3, .int y4] [] M
  refine z_iload dX12_betrays_16 rfl ?_
  refine z_aload_n dX12_betrays_18 rfl ?_
  refine z_callVi (As := []) (st := [.int y4]) dX12_betrays_19 zi_X12_99 rfl rfl zs_0 rfl rfl (Nat.le_of_ble_eq_true rfl) (by decide) (fun _ _ hx => hx) h ?_
  intro r3 M1 h2
  refine z_icmp_ge (tgt := 71) dX12_betrays_22 (by decide) (fun g4 => ?_) (fun g4 => ?_)
  · have h5 := h2.1 g4
    refine z_iload_n dX12_betrays_71 rfl ?_
    obtain ⟨g8, h7⟩ := h5
    exact z_iret dX12_betrays_72 rfl (zbool g8) (by decide) h7
  · have h6 := h2.2 g4
    refine z_iload_n dX12_betrays_25 rfl ?_
    refine z_if_ne (tgt := 59) dX12_betrays_26 (by decide) (fun g9 => ?_) (fun g9 => ?_)
    · have h10 := h6.1 g9
      refine z_weak [true, true, true, false, true] (ls' := [.ref 0, .int y1, .int y2, zU, .int y4]) rfl rfl ?_
      exact h10
    · have h11 := h6.2 g9
      refine z_aload_n dX12_betrays_29 rfl ?_
      refine z_iload dX12_betrays_30 rfl ?_
      refine z_iload_n dX12_betrays_32 rfl ?_
      refine z_callVi (As := [.int y4, .int y1]) (st := []) dX12_betrays_33 zi_X12_451 rfl rfl zs_0 rfl rfl (Nat.le_of_ble_eq_true rfl) (by decide) (fun _ _ hx => hx) h11 ?_
      intro r14 M12 h13
      refine z_if_eq (tgt := 63) dX12_betrays_36 (by decide) (fun g15 => ?_) (fun g15 => ?_)
      · have h16 := h13.1 g15
        refine z_weak [true, true, true, false, true] (ls' := [.ref 0, .int y1, .int y2, zU, .int y4]) rfl rfl ?_
        exact h16
      · have h17 := h13.2 g15
        refine z_aload_n dX12_betrays_39 rfl ?_
        refine z_iload dX12_betrays_40 rfl ?_
        refine z_iload_n dX12_betrays_42 rfl ?_
        refine z_callVi (As := [.int y4, .int y2]) (st := []) dX12_betrays_43 zi_X12_451 rfl rfl zs_0 rfl rfl (Nat.le_of_ble_eq_true rfl) (by decide) (fun _ _ hx => hx) h17 ?_
        intro r20 M18 h19
        refine z_if_ne (tgt := 63) dX12_betrays_46 (by decide) (fun g21 => ?_) (fun g21 => ?_)
        · have h22 := h19.1 g21
          refine z_weak [true, true, true, false, true] (ls' := [.ref 0, .int y1, .int y2, zU, .int y4]) rfl rfl ?_
          exact h22
        · have h23 := h19.2 g21
          refine z_aload_n dX12_betrays_49 rfl ?_
          refine z_iload dX12_betrays_50 rfl ?_
          refine z_iload_n dX12_betrays_52 rfl ?_
          refine z_callVi (As := [.int y4, .int y2]) (st := []) dX12_betrays_53 zi_X12_364 rfl rfl zs_0 rfl rfl (Nat.le_of_ble_eq_true rfl) (by decide) (fun _ _ hx => hx) h23 ?_
          intro r26 M24 h25
          refine z_if_le (tgt := 63) dX12_betrays_56 (by decide) (fun g27 => ?_) (fun g27 => ?_)
          · have h28 := h25.1 g27
            refine z_weak [true, true, true, false, true] (ls' := [.ref 0, .int y1, .int y2, zU, .int y4]) rfl rfl ?_
            exact h28
          · have h29 := h25.2 g27
            refine z_weak [true, true, true, false, true] (ls' := [.ref 0, .int y1, .int y2, zU, .int y4]) rfl rfl ?_
            exact h29
theorem t_X12_betrays_59 {E : zEv} {D : Nat} {post : Int32 → zM → Prop} {px : String → zM → Prop} {M : zM}   {y1 : Int32} {y2 : Int32} {y4 : Int32} (h : w_X12_betrays_64 E D post px y1 y2 y4 (1 : Int32) M) : w_X12_betrays_59 E D post px y1 y2 y4 M := by
  show Z E jX12_betrays (D + 1) 0 (zQi post px) 59 0 [.ref 0, .int y1, .int y2, zU, .int y4] [] M
  refine z_iconst (v := (1 : Int32)) dX12_betrays_59 rfl ?_
  refine z_goto (tgt := 64) dX12_betrays_60 (by decide) ?_
  exact h
theorem t_X12_betrays_63 {E : zEv} {D : Nat} {post : Int32 → zM → Prop} {px : String → zM → Prop} {M : zM}   {y1 : Int32} {y2 : Int32} {y4 : Int32} (h : w_X12_betrays_64 E D post px y1 y2 y4 (0 : Int32) M) : w_X12_betrays_63 E D post px y1 y2 y4 M := by
  show Z E jX12_betrays (D + 1) 0 (zQi post px) 63 0 [.ref 0, .int y1, .int y2, zU, .int y4] [] M
  refine z_iconst (v := (0 : Int32)) dX12_betrays_63 rfl ?_
  exact h
theorem t_X12_betrays_64 {E : zEv} {D : Nat} {post : Int32 → zM → Prop} {px : String → zM → Prop} {M : zM}   {y1 : Int32} {y2 : Int32} {y4 : Int32} {s0 : Int32} (h : w_X12_betrays_16 E D post px y1 y2 s0 (y4 + (1 : Int32)) M) : w_X12_betrays_64 E D post px y1 y2 y4 s0 M := by
  show Z E jX12_betrays (D + 1) 0 (zQi post px) 64 0 [.ref 0, .int y1, .int y2, zU, .int y4] [.int s0] M
  refine z_istore_n dX12_betrays_64 (by decide) (ls' := [.ref 0, .int y1, .int y2, .int s0, .int y4]) rfl ?_
  refine z_iinc dX12_betrays_65 rfl (by decide) (ls' := [.ref 0, .int y1, .int y2, .int s0, .int (y4 + (1 : Int32))]) rfl ?_
  refine z_goto (tgt := 16) dX12_betrays_68 (by decide) ?_
  exact h
def w_X12_heats_20 (E : zEv) (D : Nat) (post : Int32 → zM → Prop) (px : String → zM → Prop)  (y1 : Int32) (y2 : Int32) (y3 : Int32) (y4 : Int32) (M : zM) : Prop := Z E jX12_heats (D + 1) 0 (zQi post px) 20 0 [.ref 0, .int y1, .int y2, .int y3, .int y4, zU, zU] [] M
def w_X12_heats_42 (E : zEv) (D : Nat) (post : Int32 → zM → Prop) (px : String → zM → Prop)  (y1 : Int32) (y2 : Int32) (y3 : Int32) (y4 : Int32) (y5 : Int32) (y6 : Int32) (M : zM) : Prop := Z E jX12_heats (D + 1) 0 (zQi post px) 42 0 [.ref 0, .int y1, .int y2, .int y3, .int y4, .int y5, .int y6] [] M
def w_X12_heats_95 (E : zEv) (D : Nat) (post : Int32 → zM → Prop) (px : String → zM → Prop)  (y1 : Int32) (y3 : Int32) (y4 : Int32) (y5 : Int32) (s0 : Int32) (M : zM) : Prop := Z E jX12_heats (D + 1) 0 (zQi post px) 95 0 [.ref 0, .int y1, zU, .int y3, .int y4, .int y5, zU] [.int s0] M
def w_X12_heats_74 (E : zEv) (D : Nat) (post : Int32 → zM → Prop) (px : String → zM → Prop)  (y1 : Int32) (y2 : Int32) (y3 : Int32) (y4 : Int32) (y6 : Int32) (s0 : Int32) (s1 : Int32) (M : zM) : Prop := Z E jX12_heats (D + 1) 0 (zQi post px) 74 0 [.ref 0, .int y1, .int y2, .int y3, .int y4, zU, .int y6] [.int s0, .int s1] M
theorem e_X12_heats {E : zEv} {D : Nat} {post : Int32 → zM → Prop} {px : String → zM → Prop} {M : zM}   (h : ∀ M1 : zM, M1 = zup M 0 0 (0 : Int32) → w_X12_heats_20 E D post px (M1.1 1 ((7 : Int32)).toNatClampNeg) (0 : Int32) (-1 : Int32) (0 : Int32) M1) : zCi E jX12_heats (D + 1) 0 [.ref 0] M post px := by
  refine z_meth (by decide) (Nat.le_of_ble_eq_true rfl) ?_
  show Z E jX12_heats (D + 1) 0 (zQi post px) 0 0 [.ref 0, zU, zU, zU, zU, zU, zU] [] M
  refine z_aload_n dX12_heats_0 rfl ?_
  refine z_iconst (v := (0 : Int32)) dX12_heats_1 rfl ?_
  refine z_putI dX12_heats_2 zp_X12_3 zs_0 rfl rfl rfl ?_
  generalize hhM1 : zup M 0 0 (0 : Int32) = M1
  have h2 := h M1 hhM1.symm
  refine z_aload_n dX12_heats_5 rfl ?_
  refine z_getR dX12_heats_6 zg_X12_13 zs_0 rfl ?_
  refine z_bipush (v := (7 : Int32)) dX12_heats_9 rfl ?_
  refine z_iald dX12_heats_11 zs_1 (by unfold vp_in; decide) ?_
  refine z_istore_n dX12_heats_12 (by decide) (ls' := [.ref 0, .int (M1.1 1 ((7 : Int32)).toNatClampNeg), zU, zU, zU, zU, zU]) rfl ?_
  refine z_iconst (v := (0 : Int32)) dX12_heats_13 rfl ?_
  refine z_istore_n dX12_heats_14 (by decide) (ls' := [.ref 0, .int (M1.1 1 ((7 : Int32)).toNatClampNeg), .int (0 : Int32), zU, zU, zU, zU]) rfl ?_
  refine z_iconst (v := (-1 : Int32)) dX12_heats_15 rfl ?_
  refine z_istore_n dX12_heats_16 (by decide) (ls' := [.ref 0, .int (M1.1 1 ((7 : Int32)).toNatClampNeg), .int (0 : Int32), .int (-1 : Int32), zU, zU, zU]) rfl ?_
  refine z_iconst (v := (0 : Int32)) dX12_heats_17 rfl ?_
  refine z_istore dX12_heats_18 (by decide) (ls' := [.ref 0, .int (M1.1 1 ((7 : Int32)).toNatClampNeg), .int (0 : Int32), .int (-1 : Int32), .int (0 : Int32), zU, zU]) rfl ?_
  exact h2
theorem t_X12_heats_20 {E : zEv} {D : Nat} {post : Int32 → zM → Prop} {px : String → zM → Prop} {M : zM}   {y1 : Int32} {y2 : Int32} {y3 : Int32} {y4 : Int32} (h : (((9 : Int32) < y4 → ∀ M4 : zM, M4 = zup M 1 ((7 : Int32)).toNatClampNeg y1 → post y2 M4) ∧ (¬ (9 : Int32) < y4 → ∀ M6 : zM, M6 = zup M 1 ((7 : Int32)).toNatClampNeg y4 → w_X12_heats_42 E D post px y1 y2 y3 y4 (0 : Int32) (0 : Int32) M6))) : w_X12_heats_20 E D post px y1 y2 y3 y4 M := by
  show Z E jX12_heats (D + 1) 0 (zQi post px) 20 0 [.ref 0, .int y1, .int y2, .int y3, .int y4, zU, zU] [] M
  refine z_iload dX12_heats_20 rfl ?_
  refine z_bipush (v := (9 : Int32)) dX12_heats_22 rfl ?_
  refine z_icmp_gt (tgt := 109) dX12_heats_24 (by decide) (fun g1 => ?_) (fun g1 => ?_)
  · have h2 := h.1 g1
    refine z_aload_n dX12_heats_109 rfl ?_
    refine z_getR dX12_heats_110 zg_X12_13 zs_0 rfl ?_
    refine z_bipush (v := (7 : Int32)) dX12_heats_113 rfl ?_
    refine z_iload_n dX12_heats_115 rfl ?_
    refine z_iast dX12_heats_116 zs_1 (by unfold vp_in; decide) ?_
    generalize hhM4 : zup M 1 ((7 : Int32)).toNatClampNeg y1 = M4
    have h5 := h2 M4 hhM4.symm
    refine z_iload_n dX12_heats_117 rfl ?_
    exact z_iret dX12_heats_118 rfl rfl (by decide) h5
  · have h3 := h.2 g1
    refine z_aload_n dX12_heats_27 rfl ?_
    refine z_getR dX12_heats_28 zg_X12_13 zs_0 rfl ?_
    refine z_bipush (v := (7 : Int32)) dX12_heats_31 rfl ?_
    refine z_iload dX12_heats_33 rfl ?_
    refine z_iast dX12_heats_35 zs_1 (by unfold vp_in; decide) ?_
    generalize hhM6 : zup M 1 ((7 : Int32)).toNatClampNeg y4 = M6
    have h7 := h3 M6 hhM6.symm
    refine z_iconst (v := (0 : Int32)) dX12_heats_36 rfl ?_
    refine z_istore dX12_heats_37 (by decide) (ls' := [.ref 0, .int y1, .int y2, .int y3, .int y4, .int (0 : Int32), zU]) rfl ?_
    refine z_iconst (v := (0 : Int32)) dX12_heats_39 rfl ?_
    refine z_istore dX12_heats_40 (by decide) (ls' := [.ref 0, .int y1, .int y2, .int y3, .int y4, .int (0 : Int32), .int (0 : Int32)]) rfl ?_
    exact h7
theorem t_X12_heats_42 {E : zEv} {D : Nat} {post : Int32 → zM → Prop} {px : String → zM → Prop} {M : zM}   {y1 : Int32} {y2 : Int32} {y3 : Int32} {y4 : Int32} {y5 : Int32} {y6 : Int32} (h : zCi E jX12_witnesses D 0 [.ref 0] M (fun r3 M1 => ((r3 ≤ y6 → ((y5 ≤ y3 → w_X12_heats_95 E D post px y1 y3 y4 y5 y2 M1) ∧ (¬ y5 ≤ y3 → w_X12_heats_95 E D post px y1 y3 y4 y5 y4 M1))) ∧ (¬ r3 ≤ y6 → zCi E jX12_of D 0 [.ref 0, .int y6, .int (3 : Int32)] M1 (fun r12 M10 => zCi E jX12_fallsBy D 0 [.ref 0, .int y6] M10 (fun r15 M13 => ((r15 < r12 → w_X12_heats_74 E D post px y1 y2 y3 y4 y6 (0 : Int32) y5 M13) ∧ (¬ r15 < r12 → w_X12_heats_74 E D post px y1 y2 y3 y4 y6 (1 : Int32) y5 M13))) px) px))) px) : w_X12_heats_42 E D post px y1 y2 y3 y4 y5 y6 M := by
  show Z E jX12_heats (D + 1) 0 (zQi post px) 42 0 [.ref 0, .int y1, .int y2, .int y3, .int y4, .int y5, .int y6] [] M
  refine z_iload dX12_heats_42 rfl ?_
  refine z_aload_n dX12_heats_44 rfl ?_
  refine z_callVi (As := []) (st := [.int y6]) dX12_heats_45 zi_X12_92 rfl rfl zs_0 rfl rfl (Nat.le_of_ble_eq_true rfl) (by decide) (fun _ _ hx => hx) h ?_
  intro r3 M1 h2
  refine z_icmp_ge (tgt := 83) dX12_heats_48 (by decide) (fun g4 => ?_) (fun g4 => ?_)
  · have h5 := h2.1 g4
    refine z_iload dX12_heats_83 rfl ?_
    refine z_iload_n dX12_heats_85 rfl ?_
    refine z_icmp_le (tgt := 94) dX12_heats_86 (by decide) (fun g7 => ?_) (fun g7 => ?_)
    · have h8 := h5.1 g7
      refine z_iload_n dX12_heats_94 rfl ?_
      refine z_weak [true, true, false, true, true, true, false] (ls' := [.ref 0, .int y1, zU, .int y3, .int y4, .int y5, zU]) rfl rfl ?_
      exact h8
    · have h9 := h5.2 g7
      refine z_iload dX12_heats_89 rfl ?_
      refine z_goto (tgt := 95) dX12_heats_91 (by decide) ?_
      refine z_weak [true, true, false, true, true, true, false] (ls' := [.ref 0, .int y1, zU, .int y3, .int y4, .int y5, zU]) rfl rfl ?_
      exact h9
  · have h6 := h2.2 g4
    refine z_iload dX12_heats_51 rfl ?_
    refine z_aload_n dX12_heats_53 rfl ?_
    refine z_iload dX12_heats_54 rfl ?_
    refine z_iconst (v := (3 : Int32)) dX12_heats_56 rfl ?_
    refine z_callVi (As := [.int y6, .int (3 : Int32)]) (st := [.int y5]) dX12_heats_57 zi_X12_285 rfl rfl zs_0 rfl rfl (Nat.le_of_ble_eq_true rfl) (by decide) (fun _ _ hx => hx) h6 ?_
    intro r12 M10 h11
    refine z_aload_n dX12_heats_60 rfl ?_
    refine z_iload dX12_heats_61 rfl ?_
    refine z_callVi (As := [.int y6]) (st := [.int r12, .int y5]) dX12_heats_63 zi_X12_333 rfl rfl zs_0 rfl rfl (Nat.le_of_ble_eq_true rfl) (by decide) (fun _ _ hx => hx) h11 ?_
    intro r15 M13 h14
    refine z_icmp_gt (tgt := 73) dX12_heats_66 (by decide) (fun g16 => ?_) (fun g16 => ?_)
    · have h17 := h14.1 g16
      refine z_iconst (v := (0 : Int32)) dX12_heats_73 rfl ?_
      refine z_weak [true, true, true, true, true, false, true] (ls' := [.ref 0, .int y1, .int y2, .int y3, .int y4, zU, .int y6]) rfl rfl ?_
      exact h17
    · have h18 := h14.2 g16
      refine z_iconst (v := (1 : Int32)) dX12_heats_69 rfl ?_
      refine z_goto (tgt := 74) dX12_heats_70 (by decide) ?_
      refine z_weak [true, true, true, true, true, false, true] (ls' := [.ref 0, .int y1, .int y2, .int y3, .int y4, zU, .int y6]) rfl rfl ?_
      exact h18
theorem t_X12_heats_95 {E : zEv} {D : Nat} {post : Int32 → zM → Prop} {px : String → zM → Prop} {M : zM}   {y1 : Int32} {y3 : Int32} {y4 : Int32} {y5 : Int32} {s0 : Int32} (h : w_X12_heats_20 E D post px y1 s0 (zmax y3 y5) (y4 + (1 : Int32)) M) : w_X12_heats_95 E D post px y1 y3 y4 y5 s0 M := by
  show Z E jX12_heats (D + 1) 0 (zQi post px) 95 0 [.ref 0, .int y1, zU, .int y3, .int y4, .int y5, zU] [.int s0] M
  refine z_istore_n dX12_heats_95 (by decide) (ls' := [.ref 0, .int y1, .int s0, .int y3, .int y4, .int y5, zU]) rfl ?_
  refine z_iload_n dX12_heats_96 rfl ?_
  refine z_iload dX12_heats_97 rfl ?_
  refine z_max dX12_heats_99 zm_X12_305 (Nat.le_of_ble_eq_true rfl) (by decide) ?_
  refine z_istore_n dX12_heats_102 (by decide) (ls' := [.ref 0, .int y1, .int s0, .int (zmax y3 y5), .int y4, .int y5, zU]) rfl ?_
  refine z_iinc dX12_heats_103 rfl (by decide) (ls' := [.ref 0, .int y1, .int s0, .int (zmax y3 y5), .int (y4 + (1 : Int32)), .int y5, zU]) rfl ?_
  refine z_goto (tgt := 20) dX12_heats_106 (by decide) ?_
  refine z_weak [true, true, true, true, true, false, false] (ls' := [.ref 0, .int y1, .int s0, .int (zmax y3 y5), .int (y4 + (1 : Int32)), zU, zU]) rfl rfl ?_
  exact h
theorem t_X12_heats_74 {E : zEv} {D : Nat} {post : Int32 → zM → Prop} {px : String → zM → Prop} {M : zM}   {y1 : Int32} {y2 : Int32} {y3 : Int32} {y4 : Int32} {y6 : Int32} {s0 : Int32} {s1 : Int32} (h : w_X12_heats_42 E D post px y1 y2 y3 y4 (s1 + s0) (y6 + (1 : Int32)) M) : w_X12_heats_74 E D post px y1 y2 y3 y4 y6 s0 s1 M := by
  show Z E jX12_heats (D + 1) 0 (zQi post px) 74 0 [.ref 0, .int y1, .int y2, .int y3, .int y4, zU, .int y6] [.int s0, .int s1] M
  refine z_iadd dX12_heats_74 ?_
  refine z_istore dX12_heats_75 (by decide) (ls' := [.ref 0, .int y1, .int y2, .int y3, .int y4, .int (s1 + s0), .int y6]) rfl ?_
  refine z_iinc dX12_heats_77 rfl (by decide) (ls' := [.ref 0, .int y1, .int y2, .int y3, .int y4, .int (s1 + s0), .int (y6 + (1 : Int32))]) rfl ?_
  refine z_goto (tgt := 42) dX12_heats_80 (by decide) ?_
  exact h
def w_X12_unlike_5 (E : zEv) (D : Nat) (post : Int32 → zM → Prop) (px : String → zM → Prop)  (y1 : Int32) (y2 : Int32) (y3 : Int32) (y4 : Int32) (M : zM) : Prop := Z E jX12_unlike (D + 1) 0 (zQi post px) 5 0 [.ref 0, .int y1, .int y2, .int y3, .int y4] [] M
def w_X12_unlike_47 (E : zEv) (D : Nat) (post : Int32 → zM → Prop) (px : String → zM → Prop)  (y1 : Int32) (y2 : Int32) (y4 : Int32) (s0 : Int32) (s1 : Int32) (M : zM) : Prop := Z E jX12_unlike (D + 1) 0 (zQi post px) 47 0 [.ref 0, .int y1, .int y2, zU, .int y4] [.int s0, .int s1] M
theorem e_X12_unlike {E : zEv} {D : Nat} {post : Int32 → zM → Prop} {px : String → zM → Prop} {M : zM} {x1 : Int32} {x2 : Int32}  (h : w_X12_unlike_5 E D post px x1 x2 (0 : Int32) (0 : Int32) M) : zCi E jX12_unlike (D + 1) 0 [.ref 0, .int x1, .int x2] M post px := by
  refine z_meth (by decide) (Nat.le_of_ble_eq_true rfl) ?_
  show Z E jX12_unlike (D + 1) 0 (zQi post px) 0 0 [.ref 0, .int x1, .int x2, zU, zU] [] M
  refine z_iconst (v := (0 : Int32)) dX12_unlike_0 rfl ?_
  refine z_istore_n dX12_unlike_1 (by decide) (ls' := [.ref 0, .int x1, .int x2, .int (0 : Int32), zU]) rfl ?_
  refine z_iconst (v := (0 : Int32)) dX12_unlike_2 rfl ?_
  refine z_istore dX12_unlike_3 (by decide) (ls' := [.ref 0, .int x1, .int x2, .int (0 : Int32), .int (0 : Int32)]) rfl ?_
  exact h
theorem t_X12_unlike_5 {E : zEv} {D : Nat} {post : Int32 → zM → Prop} {px : String → zM → Prop} {M : zM}   {y1 : Int32} {y2 : Int32} {y3 : Int32} {y4 : Int32} (h : zCi E jX12_witnesses D 0 [.ref 0] M (fun r3 M1 => ((r3 ≤ y4 → post y3 M1) ∧ (¬ r3 ≤ y4 → zCi E jX12_of D 0 [.ref 0, .int y4, .int (3 : Int32)] M1 (fun r9 M7 => zCi E jX12_readBy D 0 [.ref 0, .int y1, .int r9] M7 (fun r12 M10 => zCi E jX12_of D 0 [.ref 0, .int y4, .int (3 : Int32)] M10 (fun r15 M13 => zCi E jX12_readBy D 0 [.ref 0, .int y2, .int r15] M13 (fun r18 M16 => ((r12 = r18 → w_X12_unlike_47 E D post px y1 y2 y4 (0 : Int32) y3 M16) ∧ (¬ r12 = r18 → w_X12_unlike_47 E D post px y1 y2 y4 (1 : Int32) y3 M16))) px) px) px) px))) px) : w_X12_unlike_5 E D post px y1 y2 y3 y4 M := by
  show Z E jX12_unlike (D + 1) 0 (zQi post px) 5 0 [.ref 0, .int y1, .int y2, .int y3, .int y4] [] M
  refine z_iload dX12_unlike_5 rfl ?_
  refine z_aload_n dX12_unlike_7 rfl ?_
  refine z_callVi (As := []) (st := [.int y4]) dX12_unlike_8 zi_X12_92 rfl rfl zs_0 rfl rfl (Nat.le_of_ble_eq_true rfl) (by decide) (fun _ _ hx => hx) h ?_
  intro r3 M1 h2
  refine z_icmp_ge (tgt := 55) dX12_unlike_11 (by decide) (fun g4 => ?_) (fun g4 => ?_)
  · have h5 := h2.1 g4
    refine z_iload_n dX12_unlike_55 rfl ?_
    exact z_iret dX12_unlike_56 rfl rfl (by decide) h5
  · have h6 := h2.2 g4
    refine z_iload_n dX12_unlike_14 rfl ?_
    refine z_aload_n dX12_unlike_15 rfl ?_
    refine z_iload_n dX12_unlike_16 rfl ?_
    refine z_aload_n dX12_unlike_17 rfl ?_
    refine z_iload dX12_unlike_18 rfl ?_
    refine z_iconst (v := (3 : Int32)) dX12_unlike_20 rfl ?_
    refine z_callVi (As := [.int y4, .int (3 : Int32)]) (st := [.int y1, .ref 0, .int y3]) dX12_unlike_21 zi_X12_285 rfl rfl zs_0 rfl rfl (Nat.le_of_ble_eq_true rfl) (by decide) (fun _ _ hx => hx) h6 ?_
    intro r9 M7 h8
    refine z_callVi (As := [.int y1, .int r9]) (st := [.int y3]) dX12_unlike_24 zi_X12_358 rfl rfl zs_0 rfl rfl (Nat.le_of_ble_eq_true rfl) (by decide) (fun _ _ hx => hx) h8 ?_
    intro r12 M10 h11
    refine z_aload_n dX12_unlike_27 rfl ?_
    refine z_iload_n dX12_unlike_28 rfl ?_
    refine z_aload_n dX12_unlike_29 rfl ?_
    refine z_iload dX12_unlike_30 rfl ?_
    refine z_iconst (v := (3 : Int32)) dX12_unlike_32 rfl ?_
    refine z_callVi (As := [.int y4, .int (3 : Int32)]) (st := [.int y2, .ref 0, .int r12, .int y3]) dX12_unlike_33 zi_X12_285 rfl rfl zs_0 rfl rfl (Nat.le_of_ble_eq_true rfl) (by decide) (fun _ _ hx => hx) h11 ?_
    intro r15 M13 h14
    refine z_callVi (As := [.int y2, .int r15]) (st := [.int r12, .int y3]) dX12_unlike_36 zi_X12_358 rfl rfl zs_0 rfl rfl (Nat.le_of_ble_eq_true rfl) (by decide) (fun _ _ hx => hx) h14 ?_
    intro r18 M16 h17
    refine z_icmp_eq (tgt := 46) dX12_unlike_39 (by decide) (fun g19 => ?_) (fun g19 => ?_)
    · have h20 := h17.1 g19
      refine z_iconst (v := (0 : Int32)) dX12_unlike_46 rfl ?_
      refine z_weak [true, true, true, false, true] (ls' := [.ref 0, .int y1, .int y2, zU, .int y4]) rfl rfl ?_
      exact h20
    · have h21 := h17.2 g19
      refine z_iconst (v := (1 : Int32)) dX12_unlike_42 rfl ?_
      refine z_goto (tgt := 47) dX12_unlike_43 (by decide) ?_
      refine z_weak [true, true, true, false, true] (ls' := [.ref 0, .int y1, .int y2, zU, .int y4]) rfl rfl ?_
      exact h21
theorem t_X12_unlike_47 {E : zEv} {D : Nat} {post : Int32 → zM → Prop} {px : String → zM → Prop} {M : zM}   {y1 : Int32} {y2 : Int32} {y4 : Int32} {s0 : Int32} {s1 : Int32} (h : w_X12_unlike_5 E D post px y1 y2 (s1 + s0) (y4 + (1 : Int32)) M) : w_X12_unlike_47 E D post px y1 y2 y4 s0 s1 M := by
  show Z E jX12_unlike (D + 1) 0 (zQi post px) 47 0 [.ref 0, .int y1, .int y2, zU, .int y4] [.int s0, .int s1] M
  refine z_iadd dX12_unlike_47 ?_
  refine z_istore_n dX12_unlike_48 (by decide) (ls' := [.ref 0, .int y1, .int y2, .int (s1 + s0), .int y4]) rfl ?_
  refine z_iinc dX12_unlike_49 rfl (by decide) (ls' := [.ref 0, .int y1, .int y2, .int (s1 + s0), .int (y4 + (1 : Int32))]) rfl ?_
  refine z_goto (tgt := 5) dX12_unlike_52 (by decide) ?_
  exact h
theorem e_X12_firstOf {E : zEv} {D : Nat} {post : Int32 → zM → Prop} {px : String → zM → Prop} {M : zM} {x1 : Int32}  (h : zCi E jJ6_numberOfTrailingZeros_0f7a4 D 0 [.int x1] M (fun r3 M1 => post r3 M1) px) : zCi E jX12_firstOf (D + 1) 0 [.int x1] M post px := by
  refine z_meth (by decide) (Nat.le_of_ble_eq_true rfl) ?_
  show Z E jX12_firstOf (D + 1) 0 (zQi post px) 0 0 [.int x1] [] M
  refine z_iload_n dX12_firstOf_0 rfl ?_
  refine z_callSi (As := [.int x1]) (st := []) dX12_firstOf_1 zi_X12_478 rfl rfl (Nat.le_of_ble_eq_true rfl) (by decide) (fun _ _ hx => hx) h ?_
  intro r3 M1 h2
  exact z_iret dX12_firstOf_4 rfl rfl (by decide) h2
def w_X12_unlikelyBy_60 (E : zEv) (D : Nat) (post : Int32 → zM → Prop) (px : String → zM → Prop)  (s0 : Int32) (M : zM) : Prop := Z E jX12_unlikelyBy (D + 1) 0 (zQi post px) 60 0 [zU, zU, zU, zU, zU] [.int s0] M
theorem e_X12_unlikelyBy {E : zEv} {D : Nat} {post : Int32 → zM → Prop} {px : String → zM → Prop} {M : zM} {x1 : Int32} {x2 : Int32}  (h : zCi E jX12_firstOf D 0 [.int x1] M (fun r3 M1 => ((¬ x2 = (-1 : Int32) → zCi E jX12_has D 0 [.int (x1 &&& (((1 : Int32) <<< (r3 &&& 31)) ^^^ (-1 : Int32))), .int x2] M1 (fun r9 M7 => ((r9 = 0 → w_X12_unlikelyBy_60 E D post px (-1 : Int32) M7) ∧ (¬ r9 = 0 → zCi E jX12_unlike D 0 [.ref 0, .int r3, .int x2] M7 (fun r15 M13 => vp_in ((x1 &&& (((1 : Int32) <<< (r3 &&& 31)) ^^^ (-1 : Int32))) &&& (((1 : Int32) <<< (x2 &&& 31)) ^^^ (-1 : Int32))) 16 ∧ w_X12_unlikelyBy_60 E D post px (r15 + (M13.1 16 (((x1 &&& (((1 : Int32) <<< (r3 &&& 31)) ^^^ (-1 : Int32))) &&& (((1 : Int32) <<< (x2 &&& 31)) ^^^ (-1 : Int32)))).toNatClampNeg)) M13) px))) px) ∧ (x2 = (-1 : Int32) → vp_in (x1 &&& (((1 : Int32) <<< (r3 &&& 31)) ^^^ (-1 : Int32))) 16 ∧ post (M1.1 16 ((x1 &&& (((1 : Int32) <<< (r3 &&& 31)) ^^^ (-1 : Int32)))).toNatClampNeg) M1))) px) : zCi E jX12_unlikelyBy (D + 1) 0 [.ref 0, .int x1, .int x2] M post px := by
  refine z_meth (by decide) (Nat.le_of_ble_eq_true rfl) ?_
  show Z E jX12_unlikelyBy (D + 1) 0 (zQi post px) 0 0 [.ref 0, .int x1, .int x2, zU, zU] [] M
  refine z_iload_n dX12_unlikelyBy_0 rfl ?_
  refine z_callSi (As := [.int x1]) (st := []) dX12_unlikelyBy_1 zi_X12_481 rfl rfl (Nat.le_of_ble_eq_true rfl) (by decide) (fun _ _ hx => hx) h ?_
  intro r3 M1 h2
  refine z_istore_n dX12_unlikelyBy_4 (by decide) (ls' := [.ref 0, .int x1, .int x2, .int r3, zU]) rfl ?_
  refine z_iload_n dX12_unlikelyBy_5 rfl ?_
  refine z_iconst (v := (1 : Int32)) dX12_unlikelyBy_6 rfl ?_
  refine z_iload_n dX12_unlikelyBy_7 rfl ?_
  refine z_ishl dX12_unlikelyBy_8 ?_
  refine z_iconst (v := (-1 : Int32)) dX12_unlikelyBy_9 rfl ?_
  refine z_ixor dX12_unlikelyBy_10 ?_
  refine z_iand dX12_unlikelyBy_11 ?_
  refine z_istore dX12_unlikelyBy_12 (by decide) (ls' := [.ref 0, .int x1, .int x2, .int r3, .int (x1 &&& (((1 : Int32) <<< (r3 &&& 31)) ^^^ (-1 : Int32)))]) rfl ?_
  refine z_iload_n dX12_unlikelyBy_14 rfl ?_
  refine z_iconst (v := (-1 : Int32)) dX12_unlikelyBy_15 rfl ?_
  refine z_icmp_ne (tgt := 27) dX12_unlikelyBy_16 (by decide) (fun g4 => ?_) (fun g4 => ?_)
  · have h5 := h2.1 g4
    refine z_iload dX12_unlikelyBy_27 rfl ?_
    refine z_iload_n dX12_unlikelyBy_29 rfl ?_
    refine z_callSi (As := [.int (x1 &&& (((1 : Int32) <<< (r3 &&& 31)) ^^^ (-1 : Int32))), .int x2]) (st := []) dX12_unlikelyBy_30 zi_X12_147 rfl rfl (Nat.le_of_ble_eq_true rfl) (by decide) (fun _ _ hx => hx) h5 ?_
    intro r9 M7 h8
    refine z_if_eq (tgt := 59) dX12_unlikelyBy_33 (by decide) (fun g10 => ?_) (fun g10 => ?_)
    · have h11 := h8.1 g10
      refine z_iconst (v := (-1 : Int32)) dX12_unlikelyBy_59 rfl ?_
      refine z_weak [false, false, false, false, false] (ls' := [zU, zU, zU, zU, zU]) rfl rfl ?_
      exact h11
    · have h12 := h8.2 g10
      refine z_aload_n dX12_unlikelyBy_36 rfl ?_
      refine z_iload_n dX12_unlikelyBy_37 rfl ?_
      refine z_iload_n dX12_unlikelyBy_38 rfl ?_
      refine z_callVi (As := [.int r3, .int x2]) (st := []) dX12_unlikelyBy_39 zi_X12_484 rfl rfl zs_0 rfl rfl (Nat.le_of_ble_eq_true rfl) (by decide) (fun _ _ hx => hx) h12 ?_
      intro r15 M13 h14
      refine z_aload_n dX12_unlikelyBy_42 rfl ?_
      refine z_getR dX12_unlikelyBy_43 zg_X12_64 zs_0 rfl ?_
      refine z_iload dX12_unlikelyBy_46 rfl ?_
      refine z_iconst (v := (1 : Int32)) dX12_unlikelyBy_48 rfl ?_
      refine z_iload_n dX12_unlikelyBy_49 rfl ?_
      refine z_ishl dX12_unlikelyBy_50 ?_
      refine z_iconst (v := (-1 : Int32)) dX12_unlikelyBy_51 rfl ?_
      refine z_ixor dX12_unlikelyBy_52 ?_
      refine z_iand dX12_unlikelyBy_53 ?_
      obtain ⟨g17, h16⟩ := h14
      refine z_iald dX12_unlikelyBy_54 zs_16 g17 ?_
      refine z_iadd dX12_unlikelyBy_55 ?_
      refine z_goto (tgt := 60) dX12_unlikelyBy_56 (by decide) ?_
      refine z_weak [false, false, false, false, false] (ls' := [zU, zU, zU, zU, zU]) rfl rfl ?_
      exact h16
  · have h6 := h2.2 g4
    refine z_aload_n dX12_unlikelyBy_19 rfl ?_
    refine z_getR dX12_unlikelyBy_20 zg_X12_64 zs_0 rfl ?_
    refine z_iload dX12_unlikelyBy_23 rfl ?_
    obtain ⟨g19, h18⟩ := h6
    refine z_iald dX12_unlikelyBy_25 zs_16 g19 ?_
    exact z_iret dX12_unlikelyBy_26 rfl rfl (by decide) h18
theorem t_X12_unlikelyBy_60 {E : zEv} {D : Nat} {post : Int32 → zM → Prop} {px : String → zM → Prop} {M : zM}   {s0 : Int32} (h : post s0 M) : w_X12_unlikelyBy_60 E D post px s0 M := by
  show Z E jX12_unlikelyBy (D + 1) 0 (zQi post px) 60 0 [zU, zU, zU, zU, zU] [.int s0] M
  exact z_iret dX12_unlikelyBy_60 rfl rfl (by decide) h
def w_X12_laysUnlikely_9 (E : zEv) (D : Nat) (post : zM → Prop) (px : String → zM → Prop)  (y1 : Int32) (M : zM) : Prop := Z E jX12_laysUnlikely (D + 1) 0 (zQv post px) 9 0 [.ref 0, .int y1, zU, zU] [] M
def w_X12_laysUnlikely_23 (E : zEv) (D : Nat) (post : zM → Prop) (px : String → zM → Prop)  (y1 : Int32) (y2 : Int32) (y3 : Int32) (M : zM) : Prop := Z E jX12_laysUnlikely (D + 1) 0 (zQv post px) 23 0 [.ref 0, .int y1, .int y2, .int y3] [] M
theorem e_X12_laysUnlikely {E : zEv} {D : Nat} {post : zM → Prop} {px : String → zM → Prop} {M : zM}   (h : ∀ M1 : zM, M1 = zup M 16 ((0 : Int32)).toNatClampNeg (0 : Int32) → w_X12_laysUnlikely_9 E D post px (1 : Int32) M1) : zCv E jX12_laysUnlikely (D + 1) 0 [.ref 0] M post px := by
  refine z_meth (by decide) (Nat.le_of_ble_eq_true rfl) ?_
  show Z E jX12_laysUnlikely (D + 1) 0 (zQv post px) 0 0 [.ref 0, zU, zU, zU] [] M
  refine z_aload_n dX12_laysUnlikely_0 rfl ?_
  refine z_getR dX12_laysUnlikely_1 zg_X12_64 zs_0 rfl ?_
  refine z_iconst (v := (0 : Int32)) dX12_laysUnlikely_4 rfl ?_
  refine z_iconst (v := (0 : Int32)) dX12_laysUnlikely_5 rfl ?_
  refine z_iast dX12_laysUnlikely_6 zs_16 (by unfold vp_in; decide) ?_
  generalize hhM1 : zup M 16 ((0 : Int32)).toNatClampNeg (0 : Int32) = M1
  have h2 := h M1 hhM1.symm
  refine z_iconst (v := (1 : Int32)) dX12_laysUnlikely_7 rfl ?_
  refine z_istore_n dX12_laysUnlikely_8 (by decide) (ls' := [.ref 0, .int (1 : Int32), zU, zU]) rfl ?_
  exact h2
theorem t_X12_laysUnlikely_9 {E : zEv} {D : Nat} {post : zM → Prop} {px : String → zM → Prop} {M : zM}   {y1 : Int32} (h : zCi E jX12_women D 0 [.ref 0] M (fun r3 M1 => ((((1 : Int32) <<< (r3 &&& 31)) ≤ y1 → post M1) ∧ (¬ ((1 : Int32) <<< (r3 &&& 31)) ≤ y1 → w_X12_laysUnlikely_23 E D post px y1 (0 : Int32) (-1 : Int32) M1))) px) : w_X12_laysUnlikely_9 E D post px y1 M := by
  show Z E jX12_laysUnlikely (D + 1) 0 (zQv post px) 9 0 [.ref 0, .int y1, zU, zU] [] M
  refine z_iload_n dX12_laysUnlikely_9 rfl ?_
  refine z_iconst (v := (1 : Int32)) dX12_laysUnlikely_10 rfl ?_
  refine z_aload_n dX12_laysUnlikely_11 rfl ?_
  refine z_callVi (As := []) (st := [.int (1 : Int32), .int y1]) dX12_laysUnlikely_12 zi_X12_102 rfl rfl zs_0 rfl rfl (Nat.le_of_ble_eq_true rfl) (by decide) (fun _ _ hx => hx) h ?_
  intro r3 M1 h2
  refine z_ishl dX12_laysUnlikely_15 ?_
  refine z_icmp_ge (tgt := 61) dX12_laysUnlikely_16 (by decide) (fun g4 => ?_) (fun g4 => ?_)
  · have h5 := h2.1 g4
    exact z_vret dX12_laysUnlikely_61 rfl (by decide) h5
  · have h6 := h2.2 g4
    refine z_iconst (v := (0 : Int32)) dX12_laysUnlikely_19 rfl ?_
    refine z_istore_n dX12_laysUnlikely_20 (by decide) (ls' := [.ref 0, .int y1, .int (0 : Int32), zU]) rfl ?_
    refine z_iconst (v := (-1 : Int32)) dX12_laysUnlikely_21 rfl ?_
    refine z_istore_n dX12_laysUnlikely_22 (by decide) (ls' := [.ref 0, .int y1, .int (0 : Int32), .int (-1 : Int32)]) rfl ?_
    exact h6
theorem t_X12_laysUnlikely_23 {E : zEv} {D : Nat} {post : zM → Prop} {px : String → zM → Prop} {M : zM}   {y1 : Int32} {y2 : Int32} {y3 : Int32} (h : zCi E jX12_women D 0 [.ref 0] M (fun r3 M1 => ((r3 ≤ y3 → vp_in y1 16 ∧ ∀ M9 : zM, M9 = zup M1 16 (y1).toNatClampNeg y2 → w_X12_laysUnlikely_9 E D post px (y1 + (1 : Int32)) M9) ∧ (¬ r3 ≤ y3 → zCi E jX12_unlikelyBy D 0 [.ref 0, .int y1, .int y3] M1 (fun r13 M11 => w_X12_laysUnlikely_23 E D post px y1 (zmax y2 r13) (y3 + (1 : Int32)) M11) px))) px) : w_X12_laysUnlikely_23 E D post px y1 y2 y3 M := by
  show Z E jX12_laysUnlikely (D + 1) 0 (zQv post px) 23 0 [.ref 0, .int y1, .int y2, .int y3] [] M
  refine z_iload_n dX12_laysUnlikely_23 rfl ?_
  refine z_aload_n dX12_laysUnlikely_24 rfl ?_
  refine z_callVi (As := []) (st := [.int y3]) dX12_laysUnlikely_25 zi_X12_102 rfl rfl zs_0 rfl rfl (Nat.le_of_ble_eq_true rfl) (by decide) (fun _ _ hx => hx) h ?_
  intro r3 M1 h2
  refine z_icmp_ge (tgt := 48) dX12_laysUnlikely_28 (by decide) (fun g4 => ?_) (fun g4 => ?_)
  · have h5 := h2.1 g4
    refine z_aload_n dX12_laysUnlikely_48 rfl ?_
    refine z_getR dX12_laysUnlikely_49 zg_X12_64 zs_0 rfl ?_
    refine z_iload_n dX12_laysUnlikely_52 rfl ?_
    refine z_iload_n dX12_laysUnlikely_53 rfl ?_
    obtain ⟨g8, h7⟩ := h5
    refine z_iast dX12_laysUnlikely_54 zs_16 g8 ?_
    generalize hhM9 : zup M1 16 (y1).toNatClampNeg y2 = M9
    have h10 := h7 M9 hhM9.symm
    refine z_iinc dX12_laysUnlikely_55 rfl (by decide) (ls' := [.ref 0, .int (y1 + (1 : Int32)), .int y2, .int y3]) rfl ?_
    refine z_goto (tgt := 9) dX12_laysUnlikely_58 (by decide) ?_
    refine z_weak [true, true, false, false] (ls' := [.ref 0, .int (y1 + (1 : Int32)), zU, zU]) rfl rfl ?_
    exact h10
  · have h6 := h2.2 g4
    refine z_iload_n dX12_laysUnlikely_31 rfl ?_
    refine z_aload_n dX12_laysUnlikely_32 rfl ?_
    refine z_iload_n dX12_laysUnlikely_33 rfl ?_
    refine z_iload_n dX12_laysUnlikely_34 rfl ?_
    refine z_callVi (As := [.int y1, .int y3]) (st := [.int y2]) dX12_laysUnlikely_35 zi_X12_487 rfl rfl zs_0 rfl rfl (Nat.le_of_ble_eq_true rfl) (by decide) (fun _ _ hx => hx) h6 ?_
    intro r13 M11 h12
    refine z_max dX12_laysUnlikely_38 zm_X12_305 (Nat.le_of_ble_eq_true rfl) (by decide) ?_
    refine z_istore_n dX12_laysUnlikely_41 (by decide) (ls' := [.ref 0, .int y1, .int (zmax y2 r13), .int y3]) rfl ?_
    refine z_iinc dX12_laysUnlikely_42 rfl (by decide) (ls' := [.ref 0, .int y1, .int (zmax y2 r13), .int (y3 + (1 : Int32))]) rfl ?_
    refine z_goto (tgt := 23) dX12_laysUnlikely_45 (by decide) ?_
    exact h12
def w_X12_couples_23 (E : zEv) (D : Nat) (post : Int32 → zM → Prop) (px : String → zM → Prop)  (y1 : Int32) (M : zM) : Prop := Z E jX12_couples (D + 1) 0 (zQi post px) 23 0 [.ref 0, .int y1, zU, zU, zU, zU, zU] [.ref 0] M
def w_X12_couples_24 (E : zEv) (D : Nat) (post : Int32 → zM → Prop) (px : String → zM → Prop)  (y1 : Int32) (s0 : Int32) (M : zM) : Prop := Z E jX12_couples (D + 1) 0 (zQi post px) 24 0 [.ref 0, .int y1, zU, zU, zU, zU, zU] [.int s0, .ref 0] M
def w_X12_couples_63 (E : zEv) (D : Nat) (post : Int32 → zM → Prop) (px : String → zM → Prop)  (y1 : Int32) (y2 : Int32) (y3 : Int32) (y4 : Int32) (M : zM) : Prop := Z E jX12_couples (D + 1) 0 (zQi post px) 63 0 [.ref 0, .int y1, .int y2, .int y3, .int y4, zU, zU] [] M
def w_X12_couples_77 (E : zEv) (D : Nat) (post : Int32 → zM → Prop) (px : String → zM → Prop)  (y1 : Int32) (y2 : Int32) (y5 : Int32) (y6 : Int32) (M : zM) : Prop := Z E jX12_couples (D + 1) 0 (zQi post px) 77 0 [.ref 0, .int y1, .int y2, zU, zU, .int y5, .int y6] [] M
def w_X12_couples_111 (E : zEv) (D : Nat) (post : Int32 → zM → Prop) (px : String → zM → Prop)  (y1 : Int32) (y2 : Int32) (y5 : Int32) (y6 : Int32) (M : zM) : Prop := Z E jX12_couples (D + 1) 0 (zQi post px) 111 0 [.ref 0, .int y1, .int y2, zU, zU, .int y5, .int y6] [] M
def w_X12_couples_116 (E : zEv) (D : Nat) (post : Int32 → zM → Prop) (px : String → zM → Prop)  (y1 : Int32) (y2 : Int32) (y5 : Int32) (y6 : Int32) (s0 : Int32) (M : zM) : Prop := Z E jX12_couples (D + 1) 0 (zQi post px) 116 0 [.ref 0, .int y1, .int y2, zU, zU, .int y5, .int y6] [.int s0] M
def w_X12_couples_131 (E : zEv) (D : Nat) (post : Int32 → zM → Prop) (px : String → zM → Prop)  (y1 : Int32) (y2 : Int32) (y4 : Int32) (y5 : Int32) (y6 : Int32) (s0 : Int32) (M : zM) : Prop := Z E jX12_couples (D + 1) 0 (zQi post px) 131 0 [.ref 0, .int y1, .int y2, zU, .int y4, .int y5, .int y6] [.int s0] M
def w_X12_couples_159 (E : zEv) (D : Nat) (post : Int32 → zM → Prop) (px : String → zM → Prop)  (y1 : Int32) (y3 : Int32) (y4 : Int32) (s0 : Int32) (M : zM) : Prop := Z E jX12_couples (D + 1) 0 (zQi post px) 159 0 [.ref 0, .int y1, zU, .int y3, .int y4, zU, zU] [.int s0] M
theorem e_X12_couples {E : zEv} {D : Nat} {post : Int32 → zM → Prop} {px : String → zM → Prop} {M : zM} {x1 : Int32}  (h : ∀ M1 : zM, M1 = zup M 0 0 (0 : Int32) → ((x1 = (-1 : Int32) → w_X12_couples_23 E D post px x1 M1) ∧ (¬ x1 = (-1 : Int32) → zCi E jX12_noWoman D 0 [.ref 0, .int x1] M1 (fun r8 M6 => ((r8 = 0 → w_X12_couples_23 E D post px x1 M6) ∧ (¬ r8 = 0 → w_X12_couples_24 E D post px x1 (1 : Int32) M6))) px))) : zCi E jX12_couples (D + 1) 0 [.ref 0, .int x1] M post px := by
  refine z_meth (by decide) (Nat.le_of_ble_eq_true rfl) ?_
  show Z E jX12_couples (D + 1) 0 (zQi post px) 0 0 [.ref 0, .int x1, zU, zU, zU, zU, zU] [] M
  refine z_aload_n dX12_couples_0 rfl ?_
  refine z_iconst (v := (0 : Int32)) dX12_couples_1 rfl ?_
  refine z_putI dX12_couples_2 zp_X12_3 zs_0 rfl rfl rfl ?_
  generalize hhM1 : zup M 0 0 (0 : Int32) = M1
  have h2 := h M1 hhM1.symm
  refine z_aload_n dX12_couples_5 rfl ?_
  refine z_iload_n dX12_couples_6 rfl ?_
  refine z_iconst (v := (-1 : Int32)) dX12_couples_7 rfl ?_
  refine z_icmp_eq (tgt := 23) dX12_couples_8 (by decide) (fun g3 => ?_) (fun g3 => ?_)
  · have h4 := h2.1 g3
    exact h4
  · have h5 := h2.2 g3
    refine z_aload_n dX12_couples_11 rfl ?_
    refine z_iload_n dX12_couples_12 rfl ?_
    refine z_callVi (As := [.int x1]) (st := [.ref 0]) dX12_couples_13 zi_X12_394 rfl rfl zs_0 rfl rfl (Nat.le_of_ble_eq_true rfl) (by decide) (fun _ _ hx => hx) h5 ?_
    intro r8 M6 h7
    refine z_if_eq (tgt := 23) dX12_couples_16 (by decide) (fun g9 => ?_) (fun g9 => ?_)
    · have h10 := h7.1 g9
      exact h10
    · have h11 := h7.2 g9
      refine z_iconst (v := (1 : Int32)) dX12_couples_19 rfl ?_
      refine z_goto (tgt := 24) dX12_couples_20 (by decide) ?_
      exact h11
theorem t_X12_couples_23 {E : zEv} {D : Nat} {post : Int32 → zM → Prop} {px : String → zM → Prop} {M : zM}   {y1 : Int32} (h : w_X12_couples_24 E D post px y1 (0 : Int32) M) : w_X12_couples_23 E D post px y1 M := by
  show Z E jX12_couples (D + 1) 0 (zQi post px) 23 0 [.ref 0, .int y1, zU, zU, zU, zU, zU] [.ref 0] M
  refine z_iconst (v := (0 : Int32)) dX12_couples_23 rfl ?_
  exact h
theorem t_X12_couples_24 {E : zEv} {D : Nat} {post : Int32 → zM → Prop} {px : String → zM → Prop} {M : zM}   {y1 : Int32} {s0 : Int32} (h : zCi E jX12_throwsIf D 0 [.ref 0, .int s0, .int (1 : Int32)] M (fun r3 M1 => ((r3 = 0 → zCv E jX12_laysUnlikely D 0 [.ref 0] M1 (fun M7 => zCi E jX12_women D 0 [.ref 0] M7 (fun r11 M9 => ((¬ y1 = (-1 : Int32) → w_X12_couples_63 E D post px y1 (((1 : Int32) <<< (r11 &&& 31)) - (1 : Int32)) (-1 : Int32) (0 : Int32) M9) ∧ (y1 = (-1 : Int32) → vp_in (((1 : Int32) <<< (r11 &&& 31)) - (1 : Int32)) 16 ∧ post (M9.1 16 ((((1 : Int32) <<< (r11 &&& 31)) - (1 : Int32))).toNatClampNeg) M9))) px) px) ∧ (¬ r3 = 0 → post (0 : Int32) M1))) px) : w_X12_couples_24 E D post px y1 s0 M := by
  show Z E jX12_couples (D + 1) 0 (zQi post px) 24 0 [.ref 0, .int y1, zU, zU, zU, zU, zU] [.int s0, .ref 0] M
  refine z_iconst (v := (1 : Int32)) dX12_couples_24 rfl ?_
  refine z_callVi (As := [.int s0, .int (1 : Int32)]) (st := []) dX12_couples_25 zi_X12_282 rfl rfl zs_0 rfl rfl (Nat.le_of_ble_eq_true rfl) (by decide) (fun _ _ hx => hx) h ?_
  intro r3 M1 h2
  refine z_if_eq (tgt := 33) dX12_couples_28 (by decide) (fun g4 => ?_) (fun g4 => ?_)
  · have h5 := h2.1 g4
    refine z_aload_n dX12_couples_33 rfl ?_
    refine z_callVv (As := []) (st := []) dX12_couples_34 zi_X12_490 rfl rfl zs_0 rfl rfl (Nat.le_of_ble_eq_true rfl) (by decide) (fun _ _ hx => hx) h5 ?_
    intro M7 h8
    refine z_iconst (v := (1 : Int32)) dX12_couples_37 rfl ?_
    refine z_aload_n dX12_couples_38 rfl ?_
    refine z_callVi (As := []) (st := [.int (1 : Int32)]) dX12_couples_39 zi_X12_102 rfl rfl zs_0 rfl rfl (Nat.le_of_ble_eq_true rfl) (by decide) (fun _ _ hx => hx) h8 ?_
    intro r11 M9 h10
    refine z_ishl dX12_couples_42 ?_
    refine z_iconst (v := (1 : Int32)) dX12_couples_43 rfl ?_
    refine z_isub dX12_couples_44 ?_
    refine z_istore_n dX12_couples_45 (by decide) (ls' := [.ref 0, .int y1, .int (((1 : Int32) <<< (r11 &&& 31)) - (1 : Int32)), zU, zU, zU, zU]) rfl ?_
    refine z_iload_n dX12_couples_46 rfl ?_
    refine z_iconst (v := (-1 : Int32)) dX12_couples_47 rfl ?_
    refine z_icmp_ne (tgt := 58) dX12_couples_48 (by decide) (fun g12 => ?_) (fun g12 => ?_)
    · have h13 := h10.1 g12
      refine z_iconst (v := (-1 : Int32)) dX12_couples_58 rfl ?_
      refine z_istore_n dX12_couples_59 (by decide) (ls' := [.ref 0, .int y1, .int (((1 : Int32) <<< (r11 &&& 31)) - (1 : Int32)), .int (-1 : Int32), zU, zU, zU]) rfl ?_
      refine z_iconst (v := (0 : Int32)) dX12_couples_60 rfl ?_
      refine z_istore dX12_couples_61 (by decide) (ls' := [.ref 0, .int y1, .int (((1 : Int32) <<< (r11 &&& 31)) - (1 : Int32)), .int (-1 : Int32), .int (0 : Int32), zU, zU]) rfl ?_
      exact h13
    · have h14 := h10.2 g12
      refine z_aload_n dX12_couples_51 rfl ?_
      refine z_getR dX12_couples_52 zg_X12_64 zs_0 rfl ?_
      refine z_iload_n dX12_couples_55 rfl ?_
      obtain ⟨g16, h15⟩ := h14
      refine z_iald dX12_couples_56 zs_16 g16 ?_
      exact z_iret dX12_couples_57 rfl rfl (by decide) h15
  · have h6 := h2.2 g4
    refine z_iconst (v := (0 : Int32)) dX12_couples_31 rfl ?_
    exact z_iret dX12_couples_32 rfl rfl (by decide) h6
theorem t_X12_couples_63 {E : zEv} {D : Nat} {post : Int32 → zM → Prop} {px : String → zM → Prop} {M : zM}   {y1 : Int32} {y2 : Int32} {y3 : Int32} {y4 : Int32} (h : ((¬ y4 = 0 → post y3 M) ∧ (y4 = 0 → zCi E jX12_firstOf D 0 [.int y2] M (fun r6 M4 => w_X12_couples_77 E D post px y1 y2 r6 (-1 : Int32) M4) px))) : w_X12_couples_63 E D post px y1 y2 y3 y4 M := by
  show Z E jX12_couples (D + 1) 0 (zQi post px) 63 0 [.ref 0, .int y1, .int y2, .int y3, .int y4, zU, zU] [] M
  refine z_iload dX12_couples_63 rfl ?_
  refine z_if_ne (tgt := 163) dX12_couples_65 (by decide) (fun g1 => ?_) (fun g1 => ?_)
  · have h2 := h.1 g1
    refine z_iload_n dX12_couples_163 rfl ?_
    exact z_iret dX12_couples_164 rfl rfl (by decide) h2
  · have h3 := h.2 g1
    refine z_iload_n dX12_couples_68 rfl ?_
    refine z_callSi (As := [.int y2]) (st := []) dX12_couples_69 zi_X12_481 rfl rfl (Nat.le_of_ble_eq_true rfl) (by decide) (fun _ _ hx => hx) h3 ?_
    intro r6 M4 h5
    refine z_istore dX12_couples_72 (by decide) (ls' := [.ref 0, .int y1, .int y2, .int y3, .int y4, .int r6, zU]) rfl ?_
    refine z_iconst (v := (-1 : Int32)) dX12_couples_74 rfl ?_
    refine z_istore dX12_couples_75 (by decide) (ls' := [.ref 0, .int y1, .int y2, .int y3, .int y4, .int r6, .int (-1 : Int32)]) rfl ?_
    refine z_weak [true, true, true, false, false, true, true] (ls' := [.ref 0, .int y1, .int y2, zU, zU, .int r6, .int (-1 : Int32)]) rfl rfl ?_
    exact h5
theorem t_X12_couples_77 {E : zEv} {D : Nat} {post : Int32 → zM → Prop} {px : String → zM → Prop} {M : zM}   {y1 : Int32} {y2 : Int32} {y5 : Int32} {y6 : Int32} (h : zCi E jX12_unlikelyBy D 0 [.ref 0, .int y2, .int y6] M (fun r3 M1 => vp_in y2 16 ∧ ((r3 = (M1.1 16 (y2).toNatClampNeg) → ((y5 = y1 → w_X12_couples_111 E D post px y1 y2 y5 y6 M1) ∧ (¬ y5 = y1 → ((¬ y6 = y1 → w_X12_couples_116 E D post px y1 y2 y5 y6 (0 : Int32) M1) ∧ (y6 = y1 → w_X12_couples_111 E D post px y1 y2 y5 y6 M1))))) ∧ (¬ r3 = (M1.1 16 (y2).toNatClampNeg) → w_X12_couples_77 E D post px y1 y2 y5 (y6 + (1 : Int32)) M1))) px) : w_X12_couples_77 E D post px y1 y2 y5 y6 M := by
  show Z E jX12_couples (D + 1) 0 (zQi post px) 77 0 [.ref 0, .int y1, .int y2, zU, zU, .int y5, .int y6] [] M
  refine z_aload_n dX12_couples_77 rfl ?_
  refine z_iload_n dX12_couples_78 rfl ?_
  refine z_iload dX12_couples_79 rfl ?_
  refine z_callVi (As := [.int y2, .int y6]) (st := []) dX12_couples_81 zi_X12_487 rfl rfl zs_0 rfl rfl (Nat.le_of_ble_eq_true rfl) (by decide) (fun _ _ hx => hx) h ?_
  intro r3 M1 h2
  refine z_aload_n dX12_couples_84 rfl ?_
  refine z_getR dX12_couples_85 zg_X12_64 zs_0 rfl ?_
  refine z_iload_n dX12_couples_88 rfl ?_
  obtain ⟨g5, h4⟩ := h2
  refine z_iald dX12_couples_89 zs_16 g5 ?_
  refine z_icmp_eq (tgt := 99) dX12_couples_90 (by decide) (fun g6 => ?_) (fun g6 => ?_)
  · have h7 := h4.1 g6
    refine z_iload dX12_couples_99 rfl ?_
    refine z_iload_n dX12_couples_101 rfl ?_
    refine z_icmp_eq (tgt := 111) dX12_couples_102 (by decide) (fun g9 => ?_) (fun g9 => ?_)
    · have h10 := h7.1 g9
      exact h10
    · have h11 := h7.2 g9
      refine z_iload dX12_couples_105 rfl ?_
      refine z_iload_n dX12_couples_107 rfl ?_
      refine z_icmp_ne (tgt := 115) dX12_couples_108 (by decide) (fun g12 => ?_) (fun g12 => ?_)
      · have h13 := h11.1 g12
        refine z_iconst (v := (0 : Int32)) dX12_couples_115 rfl ?_
        exact h13
      · have h14 := h11.2 g12
        exact h14
  · have h8 := h4.2 g6
    refine z_iinc dX12_couples_93 rfl (by decide) (ls' := [.ref 0, .int y1, .int y2, zU, zU, .int y5, .int (y6 + (1 : Int32))]) rfl ?_
    refine z_goto (tgt := 77) dX12_couples_96 (by decide) ?_
    exact h8
theorem t_X12_couples_111 {E : zEv} {D : Nat} {post : Int32 → zM → Prop} {px : String → zM → Prop} {M : zM}   {y1 : Int32} {y2 : Int32} {y5 : Int32} {y6 : Int32} (h : w_X12_couples_116 E D post px y1 y2 y5 y6 (1 : Int32) M) : w_X12_couples_111 E D post px y1 y2 y5 y6 M := by
  show Z E jX12_couples (D + 1) 0 (zQi post px) 111 0 [.ref 0, .int y1, .int y2, zU, zU, .int y5, .int y6] [] M
  refine z_iconst (v := (1 : Int32)) dX12_couples_111 rfl ?_
  refine z_goto (tgt := 116) dX12_couples_112 (by decide) ?_
  exact h
theorem t_X12_couples_116 {E : zEv} {D : Nat} {post : Int32 → zM → Prop} {px : String → zM → Prop} {M : zM}   {y1 : Int32} {y2 : Int32} {y5 : Int32} {y6 : Int32} {s0 : Int32} (h : ((¬ y5 = y1 → w_X12_couples_131 E D post px y1 y2 s0 y5 y6 y5 M) ∧ (y5 = y1 → w_X12_couples_131 E D post px y1 y2 s0 y5 y6 y6 M))) : w_X12_couples_116 E D post px y1 y2 y5 y6 s0 M := by
  show Z E jX12_couples (D + 1) 0 (zQi post px) 116 0 [.ref 0, .int y1, .int y2, zU, zU, .int y5, .int y6] [.int s0] M
  refine z_istore dX12_couples_116 (by decide) (ls' := [.ref 0, .int y1, .int y2, zU, .int s0, .int y5, .int y6]) rfl ?_
  refine z_iload dX12_couples_118 rfl ?_
  refine z_iload_n dX12_couples_120 rfl ?_
  refine z_icmp_ne (tgt := 129) dX12_couples_121 (by decide) (fun g1 => ?_) (fun g1 => ?_)
  · have h2 := h.1 g1
    refine z_iload dX12_couples_129 rfl ?_
    exact h2
  · have h3 := h.2 g1
    refine z_iload dX12_couples_124 rfl ?_
    refine z_goto (tgt := 131) dX12_couples_126 (by decide) ?_
    exact h3
theorem t_X12_couples_131 {E : zEv} {D : Nat} {post : Int32 → zM → Prop} {px : String → zM → Prop} {M : zM}   {y1 : Int32} {y2 : Int32} {y4 : Int32} {y5 : Int32} {y6 : Int32} {s0 : Int32} (h : ((¬ y6 = (-1 : Int32) → w_X12_couples_159 E D post px y1 s0 y4 ((y2 &&& (((1 : Int32) <<< (y5 &&& 31)) ^^^ (-1 : Int32))) &&& (((1 : Int32) <<< (y6 &&& 31)) ^^^ (-1 : Int32))) M) ∧ (y6 = (-1 : Int32) → w_X12_couples_159 E D post px y1 s0 y4 (y2 &&& (((1 : Int32) <<< (y5 &&& 31)) ^^^ (-1 : Int32))) M))) : w_X12_couples_131 E D post px y1 y2 y4 y5 y6 s0 M := by
  show Z E jX12_couples (D + 1) 0 (zQi post px) 131 0 [.ref 0, .int y1, .int y2, zU, .int y4, .int y5, .int y6] [.int s0] M
  refine z_istore_n dX12_couples_131 (by decide) (ls' := [.ref 0, .int y1, .int y2, .int s0, .int y4, .int y5, .int y6]) rfl ?_
  refine z_iload_n dX12_couples_132 rfl ?_
  refine z_iconst (v := (1 : Int32)) dX12_couples_133 rfl ?_
  refine z_iload dX12_couples_134 rfl ?_
  refine z_ishl dX12_couples_136 ?_
  refine z_iconst (v := (-1 : Int32)) dX12_couples_137 rfl ?_
  refine z_ixor dX12_couples_138 ?_
  refine z_iand dX12_couples_139 ?_
  refine z_istore_n dX12_couples_140 (by decide) (ls' := [.ref 0, .int y1, .int (y2 &&& (((1 : Int32) <<< (y5 &&& 31)) ^^^ (-1 : Int32))), .int s0, .int y4, .int y5, .int y6]) rfl ?_
  refine z_iload dX12_couples_141 rfl ?_
  refine z_iconst (v := (-1 : Int32)) dX12_couples_143 rfl ?_
  refine z_icmp_ne (tgt := 151) dX12_couples_144 (by decide) (fun g1 => ?_) (fun g1 => ?_)
  · have h2 := h.1 g1
    refine z_iload_n dX12_couples_151 rfl ?_
    refine z_iconst (v := (1 : Int32)) dX12_couples_152 rfl ?_
    refine z_iload dX12_couples_153 rfl ?_
    refine z_ishl dX12_couples_155 ?_
    refine z_iconst (v := (-1 : Int32)) dX12_couples_156 rfl ?_
    refine z_ixor dX12_couples_157 ?_
    refine z_iand dX12_couples_158 ?_
    refine z_weak [true, true, false, true, true, false, false] (ls' := [.ref 0, .int y1, zU, .int s0, .int y4, zU, zU]) rfl rfl ?_
    exact h2
  · have h3 := h.2 g1
    refine z_iload_n dX12_couples_147 rfl ?_
    refine z_goto (tgt := 159) dX12_couples_148 (by decide) ?_
    refine z_weak [true, true, false, true, true, false, false] (ls' := [.ref 0, .int y1, zU, .int s0, .int y4, zU, zU]) rfl rfl ?_
    exact h3
theorem t_X12_couples_159 {E : zEv} {D : Nat} {post : Int32 → zM → Prop} {px : String → zM → Prop} {M : zM}   {y1 : Int32} {y3 : Int32} {y4 : Int32} {s0 : Int32} (h : w_X12_couples_63 E D post px y1 s0 y3 y4 M) : w_X12_couples_159 E D post px y1 y3 y4 s0 M := by
  show Z E jX12_couples (D + 1) 0 (zQi post px) 159 0 [.ref 0, .int y1, zU, .int y3, .int y4, zU, zU] [.int s0] M
  refine z_istore_n dX12_couples_159 (by decide) (ls' := [.ref 0, .int y1, .int s0, .int y3, .int y4, zU, zU]) rfl ?_
  refine z_goto (tgt := 63) dX12_couples_160 (by decide) ?_
  exact h
def w_X12_between_52 (E : zEv) (D : Nat) (post : Int32 → zM → Prop) (px : String → zM → Prop)  (y4 : Int32) (y5 : Int32) (y6 : Int32) (M : zM) : Prop := Z E jX12_between (D + 1) 0 (zQi post px) 52 0 [.ref 0, zU, zU, zU, .int y4, .int y5, .int y6] [] M
theorem e_X12_between {E : zEv} {D : Nat} {post : Int32 → zM → Prop} {px : String → zM → Prop} {M : zM} {x1 : Int32} {x2 : Int32}  (h : zCi E jX12_noTwo D 0 [.ref 0, .int x1, .int x2] M (fun r3 M1 => ((r3 = 0 → zCi E jX12_of D 0 [.ref 0, .int x1, .int (4 : Int32)] M1 (fun r9 M7 => zCi E jX12_of D 0 [.ref 0, .int x2, .int (4 : Int32)] M7 (fun r12 M10 => zCi E jX12_of D 0 [.ref 0, .int x1, .int (4 : Int32)] M10 (fun r15 M13 => zCi E jX12_of D 0 [.ref 0, .int x2, .int (4 : Int32)] M13 (fun r18 M16 => w_X12_between_52 E D post px (zmax r15 r18) (0 : Int32) ((zmin r9 r12) + (1 : Int32)) M16) px) px) px) px) ∧ (¬ r3 = 0 → post (0 : Int32) M1))) px) : zCi E jX12_between (D + 1) 0 [.ref 0, .int x1, .int x2] M post px := by
  refine z_meth (by decide) (Nat.le_of_ble_eq_true rfl) ?_
  show Z E jX12_between (D + 1) 0 (zQi post px) 0 0 [.ref 0, .int x1, .int x2, zU, zU, zU, zU] [] M
  refine z_aload_n dX12_between_0 rfl ?_
  refine z_iload_n dX12_between_1 rfl ?_
  refine z_iload_n dX12_between_2 rfl ?_
  refine z_callVi (As := [.int x1, .int x2]) (st := []) dX12_between_3 zi_X12_397 rfl rfl zs_0 rfl rfl (Nat.le_of_ble_eq_true rfl) (by decide) (fun _ _ hx => hx) h ?_
  intro r3 M1 h2
  refine z_if_eq (tgt := 11) dX12_between_6 (by decide) (fun g4 => ?_) (fun g4 => ?_)
  · have h5 := h2.1 g4
    refine z_aload_n dX12_between_11 rfl ?_
    refine z_iload_n dX12_between_12 rfl ?_
    refine z_iconst (v := (4 : Int32)) dX12_between_13 rfl ?_
    refine z_callVi (As := [.int x1, .int (4 : Int32)]) (st := []) dX12_between_14 zi_X12_285 rfl rfl zs_0 rfl rfl (Nat.le_of_ble_eq_true rfl) (by decide) (fun _ _ hx => hx) h5 ?_
    intro r9 M7 h8
    refine z_aload_n dX12_between_17 rfl ?_
    refine z_iload_n dX12_between_18 rfl ?_
    refine z_iconst (v := (4 : Int32)) dX12_between_19 rfl ?_
    refine z_callVi (As := [.int x2, .int (4 : Int32)]) (st := [.int r9]) dX12_between_20 zi_X12_285 rfl rfl zs_0 rfl rfl (Nat.le_of_ble_eq_true rfl) (by decide) (fun _ _ hx => hx) h8 ?_
    intro r12 M10 h11
    refine z_min dX12_between_23 zm_X12_310 (Nat.le_of_ble_eq_true rfl) (by decide) ?_
    refine z_istore_n dX12_between_26 (by decide) (ls' := [.ref 0, .int x1, .int x2, .int (zmin r9 r12), zU, zU, zU]) rfl ?_
    refine z_aload_n dX12_between_27 rfl ?_
    refine z_iload_n dX12_between_28 rfl ?_
    refine z_iconst (v := (4 : Int32)) dX12_between_29 rfl ?_
    refine z_callVi (As := [.int x1, .int (4 : Int32)]) (st := []) dX12_between_30 zi_X12_285 rfl rfl zs_0 rfl rfl (Nat.le_of_ble_eq_true rfl) (by decide) (fun _ _ hx => hx) h11 ?_
    intro r15 M13 h14
    refine z_aload_n dX12_between_33 rfl ?_
    refine z_iload_n dX12_between_34 rfl ?_
    refine z_iconst (v := (4 : Int32)) dX12_between_35 rfl ?_
    refine z_callVi (As := [.int x2, .int (4 : Int32)]) (st := [.int r15]) dX12_between_36 zi_X12_285 rfl rfl zs_0 rfl rfl (Nat.le_of_ble_eq_true rfl) (by decide) (fun _ _ hx => hx) h14 ?_
    intro r18 M16 h17
    refine z_max dX12_between_39 zm_X12_305 (Nat.le_of_ble_eq_true rfl) (by decide) ?_
    refine z_istore dX12_between_42 (by decide) (ls' := [.ref 0, .int x1, .int x2, .int (zmin r9 r12), .int (zmax r15 r18), zU, zU]) rfl ?_
    refine z_iconst (v := (0 : Int32)) dX12_between_44 rfl ?_
    refine z_istore dX12_between_45 (by decide) (ls' := [.ref 0, .int x1, .int x2, .int (zmin r9 r12), .int (zmax r15 r18), .int (0 : Int32), zU]) rfl ?_
    refine z_iload_n dX12_between_47 rfl ?_
    refine z_iconst (v := (1 : Int32)) dX12_between_48 rfl ?_
    refine z_iadd dX12_between_49 ?_
    refine z_istore dX12_between_50 (by decide) (ls' := [.ref 0, .int x1, .int x2, .int (zmin r9 r12), .int (zmax r15 r18), .int (0 : Int32), .int ((zmin r9 r12) + (1 : Int32))]) rfl ?_
    refine z_weak [true, false, false, false, true, true, true] (ls' := [.ref 0, zU, zU, zU, .int (zmax r15 r18), .int (0 : Int32), .int ((zmin r9 r12) + (1 : Int32))]) rfl rfl ?_
    exact h17
  · have h6 := h2.2 g4
    refine z_iconst (v := (0 : Int32)) dX12_between_9 rfl ?_
    exact z_iret dX12_between_10 rfl rfl (by decide) h6
theorem t_X12_between_52 {E : zEv} {D : Nat} {post : Int32 → zM → Prop} {px : String → zM → Prop} {M : zM}   {y4 : Int32} {y5 : Int32} {y6 : Int32} (h : ((y4 ≤ y6 → post y5 M) ∧ (¬ y4 ≤ y6 → vp_in ((24 : Int32) + y6) 2070 ∧ w_X12_between_52 E D post px y4 (y5 ||| ((1 : Int32) <<< ((M.1 1 (((24 : Int32) + y6)).toNatClampNeg) &&& 31))) (y6 + (1 : Int32)) M))) : w_X12_between_52 E D post px y4 y5 y6 M := by
  show Z E jX12_between (D + 1) 0 (zQi post px) 52 0 [.ref 0, zU, zU, zU, .int y4, .int y5, .int y6] [] M
  refine z_iload dX12_between_52 rfl ?_
  refine z_iload dX12_between_54 rfl ?_
  refine z_icmp_ge (tgt := 82) dX12_between_56 (by decide) (fun g1 => ?_) (fun g1 => ?_)
  · have h2 := h.1 g1
    refine z_iload dX12_between_82 rfl ?_
    exact z_iret dX12_between_84 rfl rfl (by decide) h2
  · have h3 := h.2 g1
    refine z_iload dX12_between_59 rfl ?_
    refine z_iconst (v := (1 : Int32)) dX12_between_61 rfl ?_
    refine z_aload_n dX12_between_62 rfl ?_
    refine z_getR dX12_between_63 zg_X12_13 zs_0 rfl ?_
    refine z_bipush (v := (24 : Int32)) dX12_between_66 rfl ?_
    refine z_iload dX12_between_68 rfl ?_
    refine z_iadd dX12_between_70 ?_
    obtain ⟨g5, h4⟩ := h3
    refine z_iald dX12_between_71 zs_1 g5 ?_
    refine z_ishl dX12_between_72 ?_
    refine z_ior dX12_between_73 ?_
    refine z_istore dX12_between_74 (by decide) (ls' := [.ref 0, zU, zU, zU, .int y4, .int (y5 ||| ((1 : Int32) <<< ((M.1 1 (((24 : Int32) + y6)).toNatClampNeg) &&& 31))), .int y6]) rfl ?_
    refine z_iinc dX12_between_76 rfl (by decide) (ls' := [.ref 0, zU, zU, zU, .int y4, .int (y5 ||| ((1 : Int32) <<< ((M.1 1 (((24 : Int32) + y6)).toNatClampNeg) &&& 31))), .int (y6 + (1 : Int32))]) rfl ?_
    refine z_goto (tgt := 52) dX12_between_79 (by decide) ?_
    exact h4
def w_X12_alone_9 (E : zEv) (D : Nat) (post : Int32 → zM → Prop) (px : String → zM → Prop)  (y1 : Int32) (y2 : Int32) (M : zM) : Prop := Z E jX12_alone (D + 1) 0 (zQi post px) 9 0 [.ref 0, .int y1, .int y2] [] M
def w_X12_alone_47 (E : zEv) (D : Nat) (post : Int32 → zM → Prop) (px : String → zM → Prop)  (y2 : Int32) (s0 : Int32) (s1 : Int32) (M : zM) : Prop := Z E jX12_alone (D + 1) 0 (zQi post px) 47 0 [.ref 0, zU, .int y2] [.int s0, .int s1] M
theorem e_X12_alone {E : zEv} {D : Nat} {post : Int32 → zM → Prop} {px : String → zM → Prop} {M : zM}   (h : ∀ M1 : zM, M1 = zup M 0 0 (0 : Int32) → w_X12_alone_9 E D post px (0 : Int32) (0 : Int32) M1) : zCi E jX12_alone (D + 1) 0 [.ref 0] M post px := by
  refine z_meth (by decide) (Nat.le_of_ble_eq_true rfl) ?_
  show Z E jX12_alone (D + 1) 0 (zQi post px) 0 0 [.ref 0, zU, zU] [] M
  refine z_aload_n dX12_alone_0 rfl ?_
  refine z_iconst (v := (0 : Int32)) dX12_alone_1 rfl ?_
  refine z_putI dX12_alone_2 zp_X12_3 zs_0 rfl rfl rfl ?_
  generalize hhM1 : zup M 0 0 (0 : Int32) = M1
  have h2 := h M1 hhM1.symm
  refine z_iconst (v := (0 : Int32)) dX12_alone_5 rfl ?_
  refine z_istore_n dX12_alone_6 (by decide) (ls' := [.ref 0, .int (0 : Int32), zU]) rfl ?_
  refine z_iconst (v := (0 : Int32)) dX12_alone_7 rfl ?_
  refine z_istore_n dX12_alone_8 (by decide) (ls' := [.ref 0, .int (0 : Int32), .int (0 : Int32)]) rfl ?_
  exact h2
theorem t_X12_alone_9 {E : zEv} {D : Nat} {post : Int32 → zM → Prop} {px : String → zM → Prop} {M : zM}   {y1 : Int32} {y2 : Int32} (h : zCi E jX12_questions D 0 [.ref 0] M (fun r3 M1 => ((r3 ≤ y2 → post y1 M1) ∧ (¬ r3 ≤ y2 → vp_in ((12 : Int32) + y2) 2070 ∧ zCi E jJ6_bitCount_0f7a4 D 0 [.int (M1.1 1 (((12 : Int32) + y2)).toNatClampNeg)] M1 (fun r11 M9 => ((¬ r11 = (1 : Int32) → w_X12_alone_47 E D post px y2 (0 : Int32) y1 M9) ∧ (r11 = (1 : Int32) → vp_in ((12 : Int32) + y2) 2070 ∧ w_X12_alone_47 E D post px y2 (M9.1 1 (((12 : Int32) + y2)).toNatClampNeg) y1 M9))) px))) px) : w_X12_alone_9 E D post px y1 y2 M := by
  show Z E jX12_alone (D + 1) 0 (zQi post px) 9 0 [.ref 0, .int y1, .int y2] [] M
  refine z_iload_n dX12_alone_9 rfl ?_
  refine z_aload_n dX12_alone_10 rfl ?_
  refine z_callVi (As := []) (st := [.int y2]) dX12_alone_11 zi_X12_99 rfl rfl zs_0 rfl rfl (Nat.le_of_ble_eq_true rfl) (by decide) (fun _ _ hx => hx) h ?_
  intro r3 M1 h2
  refine z_icmp_ge (tgt := 55) dX12_alone_14 (by decide) (fun g4 => ?_) (fun g4 => ?_)
  · have h5 := h2.1 g4
    refine z_iload_n dX12_alone_55 rfl ?_
    exact z_iret dX12_alone_56 rfl rfl (by decide) h5
  · have h6 := h2.2 g4
    refine z_iload_n dX12_alone_17 rfl ?_
    refine z_aload_n dX12_alone_18 rfl ?_
    refine z_getR dX12_alone_19 zg_X12_13 zs_0 rfl ?_
    refine z_bipush (v := (12 : Int32)) dX12_alone_22 rfl ?_
    refine z_iload_n dX12_alone_24 rfl ?_
    refine z_iadd dX12_alone_25 ?_
    obtain ⟨g8, h7⟩ := h6
    refine z_iald dX12_alone_26 zs_1 g8 ?_
    refine z_callSi (As := [.int (M1.1 1 (((12 : Int32) + y2)).toNatClampNeg)]) (st := [.int y1]) dX12_alone_27 zi_X12_443 rfl rfl (Nat.le_of_ble_eq_true rfl) (by decide) (fun _ _ hx => hx) h7 ?_
    intro r11 M9 h10
    refine z_iconst (v := (1 : Int32)) dX12_alone_30 rfl ?_
    refine z_icmp_ne (tgt := 46) dX12_alone_31 (by decide) (fun g12 => ?_) (fun g12 => ?_)
    · have h13 := h10.1 g12
      refine z_iconst (v := (0 : Int32)) dX12_alone_46 rfl ?_
      refine z_weak [true, false, true] (ls' := [.ref 0, zU, .int y2]) rfl rfl ?_
      exact h13
    · have h14 := h10.2 g12
      refine z_aload_n dX12_alone_34 rfl ?_
      refine z_getR dX12_alone_35 zg_X12_13 zs_0 rfl ?_
      refine z_bipush (v := (12 : Int32)) dX12_alone_38 rfl ?_
      refine z_iload_n dX12_alone_40 rfl ?_
      refine z_iadd dX12_alone_41 ?_
      obtain ⟨g16, h15⟩ := h14
      refine z_iald dX12_alone_42 zs_1 g16 ?_
      refine z_goto (tgt := 47) dX12_alone_43 (by decide) ?_
      refine z_weak [true, false, true] (ls' := [.ref 0, zU, .int y2]) rfl rfl ?_
      exact h15
theorem t_X12_alone_47 {E : zEv} {D : Nat} {post : Int32 → zM → Prop} {px : String → zM → Prop} {M : zM}   {y2 : Int32} {s0 : Int32} {s1 : Int32} (h : w_X12_alone_9 E D post px (s1 ||| s0) (y2 + (1 : Int32)) M) : w_X12_alone_47 E D post px y2 s0 s1 M := by
  show Z E jX12_alone (D + 1) 0 (zQi post px) 47 0 [.ref 0, zU, .int y2] [.int s0, .int s1] M
  refine z_ior dX12_alone_47 ?_
  refine z_istore_n dX12_alone_48 (by decide) (ls' := [.ref 0, .int (s1 ||| s0), .int y2]) rfl ?_
  refine z_iinc dX12_alone_49 rfl (by decide) (ls' := [.ref 0, .int (s1 ||| s0), .int (y2 + (1 : Int32))]) rfl ?_
  refine z_goto (tgt := 9) dX12_alone_52 (by decide) ?_
  exact h
def w_X12_witnessHas_34 (E : zEv) (D : Nat) (post : Int32 → zM → Prop) (px : String → zM → Prop)  (s0 : Int32) (M : zM) : Prop := Z E jX12_witnessHas (D + 1) 0 (zQi post px) 34 0 [zU, zU, zU, zU, zU] [.int s0] M
def w_X12_witnessHas_20 (E : zEv) (D : Nat) (post : Int32 → zM → Prop) (px : String → zM → Prop)  (s0 : Int32) (M : zM) : Prop := Z E jX12_witnessHas (D + 1) 0 (zQi post px) 20 0 [zU, zU, zU, zU, zU] [.int s0] M
theorem e_X12_witnessHas {E : zEv} {D : Nat} {post : Int32 → zM → Prop} {px : String → zM → Prop} {M : zM} {x1 : Int32} {x2 : Int32} {x3 : Int32} {x4 : Int32}  (h : ((¬ x3 = 0 → ((¬ x4 = 0 → w_X12_witnessHas_34 E D post px (0 : Int32) M) ∧ (x4 = 0 → w_X12_witnessHas_34 E D post px (-(x2 / (5 : Int32))) M))) ∧ (x3 = 0 → ((¬ x4 = 0 → w_X12_witnessHas_20 E D post px (1 : Int32) M) ∧ (x4 = 0 → zCi E jX12_of D 0 [.ref 0, .int x1, .int (1 : Int32)] M (fun r12 M10 => w_X12_witnessHas_20 E D post px (-r12) M10) px))))) : zCi E jX12_witnessHas (D + 1) 0 [.ref 0, .int x1, .int x2, .int x3, .int x4] M post px := by
  refine z_meth (by decide) (Nat.le_of_ble_eq_true rfl) ?_
  show Z E jX12_witnessHas (D + 1) 0 (zQi post px) 0 0 [.ref 0, .int x1, .int x2, .int x3, .int x4] [] M
  refine z_iload_n dX12_witnessHas_0 rfl ?_
  refine z_if_ne (tgt := 21) dX12_witnessHas_1 (by decide) (fun g1 => ?_) (fun g1 => ?_)
  · have h2 := h.1 g1
    refine z_iload dX12_witnessHas_21 rfl ?_
    refine z_if_ne (tgt := 33) dX12_witnessHas_23 (by decide) (fun g4 => ?_) (fun g4 => ?_)
    · have h5 := h2.1 g4
      refine z_iconst (v := (0 : Int32)) dX12_witnessHas_33 rfl ?_
      refine z_weak [false, false, false, false, false] (ls' := [zU, zU, zU, zU, zU]) rfl rfl ?_
      exact h5
    · have h6 := h2.2 g4
      refine z_iload_n dX12_witnessHas_26 rfl ?_
      refine z_iconst (v := (5 : Int32)) dX12_witnessHas_27 rfl ?_
      refine z_idiv dX12_witnessHas_28 (by decide) ?_
      refine z_ineg dX12_witnessHas_29 ?_
      refine z_goto (tgt := 34) dX12_witnessHas_30 (by decide) ?_
      refine z_weak [false, false, false, false, false] (ls' := [zU, zU, zU, zU, zU]) rfl rfl ?_
      exact h6
  · have h3 := h.2 g1
    refine z_iload dX12_witnessHas_4 rfl ?_
    refine z_if_ne (tgt := 19) dX12_witnessHas_6 (by decide) (fun g7 => ?_) (fun g7 => ?_)
    · have h8 := h3.1 g7
      refine z_iconst (v := (1 : Int32)) dX12_witnessHas_19 rfl ?_
      refine z_weak [false, false, false, false, false] (ls' := [zU, zU, zU, zU, zU]) rfl rfl ?_
      exact h8
    · have h9 := h3.2 g7
      refine z_aload_n dX12_witnessHas_9 rfl ?_
      refine z_iload_n dX12_witnessHas_10 rfl ?_
      refine z_iconst (v := (1 : Int32)) dX12_witnessHas_11 rfl ?_
      refine z_callVi (As := [.int x1, .int (1 : Int32)]) (st := []) dX12_witnessHas_12 zi_X12_285 rfl rfl zs_0 rfl rfl (Nat.le_of_ble_eq_true rfl) (by decide) (fun _ _ hx => hx) h9 ?_
      intro r12 M10 h11
      refine z_ineg dX12_witnessHas_15 ?_
      refine z_goto (tgt := 20) dX12_witnessHas_16 (by decide) ?_
      refine z_weak [false, false, false, false, false] (ls' := [zU, zU, zU, zU, zU]) rfl rfl ?_
      exact h11
theorem t_X12_witnessHas_34 {E : zEv} {D : Nat} {post : Int32 → zM → Prop} {px : String → zM → Prop} {M : zM}   {s0 : Int32} (h : post s0 M) : w_X12_witnessHas_34 E D post px s0 M := by
  show Z E jX12_witnessHas (D + 1) 0 (zQi post px) 34 0 [zU, zU, zU, zU, zU] [.int s0] M
  exact z_iret dX12_witnessHas_34 rfl rfl (by decide) h
theorem t_X12_witnessHas_20 {E : zEv} {D : Nat} {post : Int32 → zM → Prop} {px : String → zM → Prop} {M : zM}   {s0 : Int32} (h : post s0 M) : w_X12_witnessHas_20 E D post px s0 M := by
  show Z E jX12_witnessHas (D + 1) 0 (zQi post px) 20 0 [zU, zU, zU, zU, zU] [.int s0] M
  exact z_iret dX12_witnessHas_20 rfl rfl (by decide) h
def w_X12_courtHas_25 (E : zEv) (D : Nat) (post : Int32 → zM → Prop) (px : String → zM → Prop)  (s0 : Int32) (M : zM) : Prop := Z E jX12_courtHas D 0 (zQi post px) 25 0 [zU, zU, zU, zU] [.int s0] M
def w_X12_courtHas_13 (E : zEv) (D : Nat) (post : Int32 → zM → Prop) (px : String → zM → Prop)  (s0 : Int32) (M : zM) : Prop := Z E jX12_courtHas D 0 (zQi post px) 13 0 [zU, zU, zU, zU] [.int s0] M
theorem e_X12_courtHas {E : zEv} {D : Nat} {post : Int32 → zM → Prop} {px : String → zM → Prop} {M : zM} {x1 : Int32} {x2 : Int32} {x3 : Int32}  (h : ((¬ x2 = 0 → ((¬ x3 = 0 → w_X12_courtHas_25 E D post px (0 : Int32) M) ∧ (x3 = 0 → w_X12_courtHas_25 E D post px (x1 - (2 : Int32)) M))) ∧ (x2 = 0 → ((¬ x3 = 0 → w_X12_courtHas_13 E D post px (2 : Int32) M) ∧ (x3 = 0 → w_X12_courtHas_13 E D post px (4 : Int32) M))))) : zCi E jX12_courtHas D 0 [.ref 0, .int x1, .int x2, .int x3] M post px := by
  refine z_meth (by decide) (Nat.le_of_ble_eq_true rfl) ?_
  show Z E jX12_courtHas D 0 (zQi post px) 0 0 [.ref 0, .int x1, .int x2, .int x3] [] M
  refine z_iload_n dX12_courtHas_0 rfl ?_
  refine z_if_ne (tgt := 14) dX12_courtHas_1 (by decide) (fun g1 => ?_) (fun g1 => ?_)
  · have h2 := h.1 g1
    refine z_iload_n dX12_courtHas_14 rfl ?_
    refine z_if_ne (tgt := 24) dX12_courtHas_15 (by decide) (fun g4 => ?_) (fun g4 => ?_)
    · have h5 := h2.1 g4
      refine z_iconst (v := (0 : Int32)) dX12_courtHas_24 rfl ?_
      refine z_weak [false, false, false, false] (ls' := [zU, zU, zU, zU]) rfl rfl ?_
      exact h5
    · have h6 := h2.2 g4
      refine z_iload_n dX12_courtHas_18 rfl ?_
      refine z_iconst (v := (2 : Int32)) dX12_courtHas_19 rfl ?_
      refine z_isub dX12_courtHas_20 ?_
      refine z_goto (tgt := 25) dX12_courtHas_21 (by decide) ?_
      refine z_weak [false, false, false, false] (ls' := [zU, zU, zU, zU]) rfl rfl ?_
      exact h6
  · have h3 := h.2 g1
    refine z_iload_n dX12_courtHas_4 rfl ?_
    refine z_if_ne (tgt := 12) dX12_courtHas_5 (by decide) (fun g7 => ?_) (fun g7 => ?_)
    · have h8 := h3.1 g7
      refine z_iconst (v := (2 : Int32)) dX12_courtHas_12 rfl ?_
      refine z_weak [false, false, false, false] (ls' := [zU, zU, zU, zU]) rfl rfl ?_
      exact h8
    · have h9 := h3.2 g7
      refine z_iconst (v := (4 : Int32)) dX12_courtHas_8 rfl ?_
      refine z_goto (tgt := 13) dX12_courtHas_9 (by decide) ?_
      refine z_weak [false, false, false, false] (ls' := [zU, zU, zU, zU]) rfl rfl ?_
      exact h9
theorem t_X12_courtHas_25 {E : zEv} {D : Nat} {post : Int32 → zM → Prop} {px : String → zM → Prop} {M : zM}   {s0 : Int32} (h : post s0 M) : w_X12_courtHas_25 E D post px s0 M := by
  show Z E jX12_courtHas D 0 (zQi post px) 25 0 [zU, zU, zU, zU] [.int s0] M
  exact z_iret dX12_courtHas_25 rfl rfl (by decide) h
theorem t_X12_courtHas_13 {E : zEv} {D : Nat} {post : Int32 → zM → Prop} {px : String → zM → Prop} {M : zM}   {s0 : Int32} (h : post s0 M) : w_X12_courtHas_13 E D post px s0 M := by
  show Z E jX12_courtHas D 0 (zQi post px) 13 0 [zU, zU, zU, zU] [.int s0] M
  exact z_iret dX12_courtHas_13 rfl rfl (by decide) h
def w_X12_rests_22 (E : zEv) (D : Nat) (post : Int32 → zM → Prop) (px : String → zM → Prop)  (y1 : Int32) (y2 : Int32) (M : zM) : Prop := Z E jX12_rests (D + 1) 0 (zQi post px) 22 0 [.ref 0, .int y1, .int y2, zU, zU, zU, zU, zU] [.ref 0] M
def w_X12_rests_27 (E : zEv) (D : Nat) (post : Int32 → zM → Prop) (px : String → zM → Prop)  (y1 : Int32) (y2 : Int32) (s0 : Int32) (M : zM) : Prop := Z E jX12_rests (D + 1) 0 (zQi post px) 27 0 [.ref 0, .int y1, .int y2, zU, zU, zU, zU, zU] [.int s0, .ref 0] M
def w_X12_rests_61 (E : zEv) (D : Nat) (post : Int32 → zM → Prop) (px : String → zM → Prop)  (y1 : Int32) (y3 : Int32) (y4 : Int32) (y5 : Int32) (y6 : Int32) (M : zM) : Prop := Z E jX12_rests (D + 1) 0 (zQi post px) 61 0 [.ref 0, .int y1, zU, .int y3, .int y4, .int y5, .int y6, zU] [] M
def w_X12_rests_70 (E : zEv) (D : Nat) (post : Int32 → zM → Prop) (px : String → zM → Prop)  (y1 : Int32) (y3 : Int32) (y4 : Int32) (y5 : Int32) (y6 : Int32) (y7 : Int32) (M : zM) : Prop := Z E jX12_rests (D + 1) 0 (zQi post px) 70 0 [.ref 0, .int y1, zU, .int y3, .int y4, .int y5, .int y6, .int y7] [] M
def w_X12_rests_140 (E : zEv) (D : Nat) (post : Int32 → zM → Prop) (px : String → zM → Prop)  (y1 : Int32) (y3 : Int32) (y4 : Int32) (y6 : Int32) (y7 : Int32) (s0 : Int32) (M : zM) : Prop := Z E jX12_rests (D + 1) 0 (zQi post px) 140 0 [.ref 0, .int y1, zU, .int y3, .int y4, zU, .int y6, .int y7] [.int s0] M
def w_X12_rests_141 (E : zEv) (D : Nat) (post : Int32 → zM → Prop) (px : String → zM → Prop)  (y1 : Int32) (y3 : Int32) (y4 : Int32) (y6 : Int32) (y7 : Int32) (s0 : Int32) (s1 : Int32) (M : zM) : Prop := Z E jX12_rests (D + 1) 0 (zQi post px) 141 0 [.ref 0, .int y1, zU, .int y3, .int y4, zU, .int y6, .int y7] [.int s0, .int s1] M
theorem e_X12_rests {E : zEv} {D : Nat} {post : Int32 → zM → Prop} {px : String → zM → Prop} {M : zM} {x1 : Int32} {x2 : Int32}  (h : ∀ M1 : zM, M1 = zup M 0 0 (0 : Int32) → zCi E jX12_noWitness D 0 [.ref 0, .int x1] M1 (fun r5 M3 => ((¬ r5 = 0 → w_X12_rests_22 E D post px x1 x2 M3) ∧ (r5 = 0 → zCi E jX12_noQuestion D 0 [.ref 0, .int x2] M3 (fun r11 M9 => ((r11 = 0 → w_X12_rests_27 E D post px x1 x2 (0 : Int32) M9) ∧ (¬ r11 = 0 → w_X12_rests_22 E D post px x1 x2 M9))) px))) px) : zCi E jX12_rests (D + 1) 0 [.ref 0, .int x1, .int x2] M post px := by
  refine z_meth (by decide) (Nat.le_of_ble_eq_true rfl) ?_
  show Z E jX12_rests (D + 1) 0 (zQi post px) 0 0 [.ref 0, .int x1, .int x2, zU, zU, zU, zU, zU] [] M
  refine z_aload_n dX12_rests_0 rfl ?_
  refine z_iconst (v := (0 : Int32)) dX12_rests_1 rfl ?_
  refine z_putI dX12_rests_2 zp_X12_3 zs_0 rfl rfl rfl ?_
  generalize hhM1 : zup M 0 0 (0 : Int32) = M1
  have h2 := h M1 hhM1.symm
  refine z_aload_n dX12_rests_5 rfl ?_
  refine z_aload_n dX12_rests_6 rfl ?_
  refine z_iload_n dX12_rests_7 rfl ?_
  refine z_callVi (As := [.int x1]) (st := [.ref 0]) dX12_rests_8 zi_X12_370 rfl rfl zs_0 rfl rfl (Nat.le_of_ble_eq_true rfl) (by decide) (fun _ _ hx => hx) h2 ?_
  intro r5 M3 h4
  refine z_if_ne (tgt := 22) dX12_rests_11 (by decide) (fun g6 => ?_) (fun g6 => ?_)
  · have h7 := h4.1 g6
    exact h7
  · have h8 := h4.2 g6
    refine z_aload_n dX12_rests_14 rfl ?_
    refine z_iload_n dX12_rests_15 rfl ?_
    refine z_callVi (As := [.int x2]) (st := [.ref 0]) dX12_rests_16 zi_X12_391 rfl rfl zs_0 rfl rfl (Nat.le_of_ble_eq_true rfl) (by decide) (fun _ _ hx => hx) h8 ?_
    intro r11 M9 h10
    refine z_if_eq (tgt := 26) dX12_rests_19 (by decide) (fun g12 => ?_) (fun g12 => ?_)
    · have h13 := h10.1 g12
      refine z_iconst (v := (0 : Int32)) dX12_rests_26 rfl ?_
      exact h13
    · have h14 := h10.2 g12
      exact h14
theorem t_X12_rests_22 {E : zEv} {D : Nat} {post : Int32 → zM → Prop} {px : String → zM → Prop} {M : zM}   {y1 : Int32} {y2 : Int32} (h : w_X12_rests_27 E D post px y1 y2 (1 : Int32) M) : w_X12_rests_22 E D post px y1 y2 M := by
  show Z E jX12_rests (D + 1) 0 (zQi post px) 22 0 [.ref 0, .int y1, .int y2, zU, zU, zU, zU, zU] [.ref 0] M
  refine z_iconst (v := (1 : Int32)) dX12_rests_22 rfl ?_
  refine z_goto (tgt := 27) dX12_rests_23 (by decide) ?_
  exact h
theorem t_X12_rests_27 {E : zEv} {D : Nat} {post : Int32 → zM → Prop} {px : String → zM → Prop} {M : zM}   {y1 : Int32} {y2 : Int32} {s0 : Int32} (h : zCi E jX12_throwsIf D 0 [.ref 0, .int s0, .int (1 : Int32)] M (fun r3 M1 => ((r3 = 0 → zCi E jX12_risesBy D 0 [.ref 0, .int y2, .int y1] M1 (fun r9 M7 => zCi E jX12_saidBy D 0 [.ref 0, .int y2] M7 (fun r12 M10 => zCi E jX12_weightOn D 0 [.ref 0, .int y1, .int r12] M10 (fun r15 M13 => w_X12_rests_61 E D post px y1 r9 r15 (0 : Int32) (0 : Int32) M13) px) px) px) ∧ (¬ r3 = 0 → post (0 : Int32) M1))) px) : w_X12_rests_27 E D post px y1 y2 s0 M := by
  show Z E jX12_rests (D + 1) 0 (zQi post px) 27 0 [.ref 0, .int y1, .int y2, zU, zU, zU, zU, zU] [.int s0, .ref 0] M
  refine z_iconst (v := (1 : Int32)) dX12_rests_27 rfl ?_
  refine z_callVi (As := [.int s0, .int (1 : Int32)]) (st := []) dX12_rests_28 zi_X12_282 rfl rfl zs_0 rfl rfl (Nat.le_of_ble_eq_true rfl) (by decide) (fun _ _ hx => hx) h ?_
  intro r3 M1 h2
  refine z_if_eq (tgt := 36) dX12_rests_31 (by decide) (fun g4 => ?_) (fun g4 => ?_)
  · have h5 := h2.1 g4
    refine z_aload_n dX12_rests_36 rfl ?_
    refine z_iload_n dX12_rests_37 rfl ?_
    refine z_iload_n dX12_rests_38 rfl ?_
    refine z_callVi (As := [.int y2, .int y1]) (st := []) dX12_rests_39 zi_X12_364 rfl rfl zs_0 rfl rfl (Nat.le_of_ble_eq_true rfl) (by decide) (fun _ _ hx => hx) h5 ?_
    intro r9 M7 h8
    refine z_istore_n dX12_rests_42 (by decide) (ls' := [.ref 0, .int y1, .int y2, .int r9, zU, zU, zU, zU]) rfl ?_
    refine z_aload_n dX12_rests_43 rfl ?_
    refine z_iload_n dX12_rests_44 rfl ?_
    refine z_aload_n dX12_rests_45 rfl ?_
    refine z_iload_n dX12_rests_46 rfl ?_
    refine z_callVi (As := [.int y2]) (st := [.int y1, .ref 0]) dX12_rests_47 zi_X12_322 rfl rfl zs_0 rfl rfl (Nat.le_of_ble_eq_true rfl) (by decide) (fun _ _ hx => hx) h8 ?_
    intro r12 M10 h11
    refine z_callVi (As := [.int y1, .int r12]) (st := []) dX12_rests_50 zi_X12_288 rfl rfl zs_0 rfl rfl (Nat.le_of_ble_eq_true rfl) (by decide) (fun _ _ hx => hx) h11 ?_
    intro r15 M13 h14
    refine z_istore dX12_rests_53 (by decide) (ls' := [.ref 0, .int y1, .int y2, .int r9, .int r15, zU, zU, zU]) rfl ?_
    refine z_iconst (v := (0 : Int32)) dX12_rests_55 rfl ?_
    refine z_istore dX12_rests_56 (by decide) (ls' := [.ref 0, .int y1, .int y2, .int r9, .int r15, .int (0 : Int32), zU, zU]) rfl ?_
    refine z_iconst (v := (0 : Int32)) dX12_rests_58 rfl ?_
    refine z_istore dX12_rests_59 (by decide) (ls' := [.ref 0, .int y1, .int y2, .int r9, .int r15, .int (0 : Int32), .int (0 : Int32), zU]) rfl ?_
    refine z_weak [true, true, false, true, true, true, true, false] (ls' := [.ref 0, .int y1, zU, .int r9, .int r15, .int (0 : Int32), .int (0 : Int32), zU]) rfl rfl ?_
    exact h14
  · have h6 := h2.2 g4
    refine z_iconst (v := (0 : Int32)) dX12_rests_34 rfl ?_
    exact z_iret dX12_rests_35 rfl rfl (by decide) h6
theorem t_X12_rests_61 {E : zEv} {D : Nat} {post : Int32 → zM → Prop} {px : String → zM → Prop} {M : zM}   {y1 : Int32} {y3 : Int32} {y4 : Int32} {y5 : Int32} {y6 : Int32} (h : (((2 : Int32) ≤ y6 → post y5 M) ∧ (¬ (2 : Int32) ≤ y6 → w_X12_rests_70 E D post px y1 y3 y4 y5 y6 (0 : Int32) M))) : w_X12_rests_61 E D post px y1 y3 y4 y5 y6 M := by
  show Z E jX12_rests (D + 1) 0 (zQi post px) 61 0 [.ref 0, .int y1, zU, .int y3, .int y4, .int y5, .int y6, zU] [] M
  refine z_iload dX12_rests_61 rfl ?_
  refine z_iconst (v := (2 : Int32)) dX12_rests_63 rfl ?_
  refine z_icmp_ge (tgt := 156) dX12_rests_64 (by decide) (fun g1 => ?_) (fun g1 => ?_)
  · have h2 := h.1 g1
    refine z_iload dX12_rests_156 rfl ?_
    exact z_iret dX12_rests_158 rfl rfl (by decide) h2
  · have h3 := h.2 g1
    refine z_iconst (v := (0 : Int32)) dX12_rests_67 rfl ?_
    refine z_istore dX12_rests_68 (by decide) (ls' := [.ref 0, .int y1, zU, .int y3, .int y4, .int y5, .int y6, .int (0 : Int32)]) rfl ?_
    exact h3
theorem t_X12_rests_70 {E : zEv} {D : Nat} {post : Int32 → zM → Prop} {px : String → zM → Prop} {M : zM}   {y1 : Int32} {y3 : Int32} {y4 : Int32} {y5 : Int32} {y6 : Int32} {y7 : Int32} (h : (((2 : Int32) ≤ y7 → w_X12_rests_61 E D post px y1 y3 y4 y5 (y6 + (1 : Int32)) M) ∧ (¬ (2 : Int32) ≤ y7 → zCi E jX12_witnessHas D 0 [.ref 0, .int y1, .int y3, .int y6, .int y7] M (fun r6 M4 => zCi E jX12_witnessHas D 0 [.ref 0, .int y1, .int y3, .int ((1 : Int32) - y6), .int y7] M4 (fun r9 M7 => ((r6 < r9 → w_X12_rests_140 E D post px y1 y3 y4 y6 y7 y5 M7) ∧ (¬ r6 < r9 → zCi E jX12_courtHas D 0 [.ref 0, .int y4, .int y6, .int y7] M7 (fun r15 M13 => zCi E jX12_courtHas D 0 [.ref 0, .int y4, .int y6, .int ((1 : Int32) - y7)] M13 (fun r18 M16 => ((r15 < r18 → w_X12_rests_140 E D post px y1 y3 y4 y6 y7 y5 M16) ∧ (¬ r15 < r18 → w_X12_rests_141 E D post px y1 y3 y4 y6 y7 ((1 : Int32) <<< ((((2 : Int32) * y6) + y7) &&& 31)) y5 M16))) px) px))) px) px))) : w_X12_rests_70 E D post px y1 y3 y4 y5 y6 y7 M := by
  show Z E jX12_rests (D + 1) 0 (zQi post px) 70 0 [.ref 0, .int y1, zU, .int y3, .int y4, .int y5, .int y6, .int y7] [] M
  refine z_iload dX12_rests_70 rfl ?_
  refine z_iconst (v := (2 : Int32)) dX12_rests_72 rfl ?_
  refine z_icmp_ge (tgt := 150) dX12_rests_73 (by decide) (fun g1 => ?_) (fun g1 => ?_)
  · have h2 := h.1 g1
    refine z_iinc dX12_rests_150 rfl (by decide) (ls' := [.ref 0, .int y1, zU, .int y3, .int y4, .int y5, .int (y6 + (1 : Int32)), .int y7]) rfl ?_
    refine z_goto (tgt := 61) dX12_rests_153 (by decide) ?_
    refine z_weak [true, true, false, true, true, true, true, false] (ls' := [.ref 0, .int y1, zU, .int y3, .int y4, .int y5, .int (y6 + (1 : Int32)), zU]) rfl rfl ?_
    exact h2
  · have h3 := h.2 g1
    refine z_iload dX12_rests_76 rfl ?_
    refine z_aload_n dX12_rests_78 rfl ?_
    refine z_iload_n dX12_rests_79 rfl ?_
    refine z_iload_n dX12_rests_80 rfl ?_
    refine z_iload dX12_rests_81 rfl ?_
    refine z_iload dX12_rests_83 rfl ?_
    refine z_callVi (As := [.int y1, .int y3, .int y6, .int y7]) (st := [.int y5]) dX12_rests_85 zi_X12_493 rfl rfl zs_0 rfl rfl (Nat.le_of_ble_eq_true rfl) (by decide) (fun _ _ hx => hx) h3 ?_
    intro r6 M4 h5
    refine z_aload_n dX12_rests_88 rfl ?_
    refine z_iload_n dX12_rests_89 rfl ?_
    refine z_iload_n dX12_rests_90 rfl ?_
    refine z_iconst (v := (1 : Int32)) dX12_rests_91 rfl ?_
    refine z_iload dX12_rests_92 rfl ?_
    refine z_isub dX12_rests_94 ?_
    refine z_iload dX12_rests_95 rfl ?_
    refine z_callVi (As := [.int y1, .int y3, .int ((1 : Int32) - y6), .int y7]) (st := [.int r6, .int y5]) dX12_rests_97 zi_X12_493 rfl rfl zs_0 rfl rfl (Nat.le_of_ble_eq_true rfl) (by decide) (fun _ _ hx => hx) h5 ?_
    intro r9 M7 h8
    refine z_icmp_lt (tgt := 140) dX12_rests_100 (by decide) (fun g10 => ?_) (fun g10 => ?_)
    · have h11 := h8.1 g10
      refine z_weak [true, true, false, true, true, false, true, true] (ls' := [.ref 0, .int y1, zU, .int y3, .int y4, zU, .int y6, .int y7]) rfl rfl ?_
      exact h11
    · have h12 := h8.2 g10
      refine z_aload_n dX12_rests_103 rfl ?_
      refine z_iload dX12_rests_104 rfl ?_
      refine z_iload dX12_rests_106 rfl ?_
      refine z_iload dX12_rests_108 rfl ?_
      refine z_callVi (As := [.int y4, .int y6, .int y7]) (st := [.int y5]) dX12_rests_110 zi_X12_496 rfl rfl zs_0 rfl rfl (Nat.le_of_ble_eq_true rfl) (by decide) (fun _ _ hx => hx) h12 ?_
      intro r15 M13 h14
      refine z_aload_n dX12_rests_113 rfl ?_
      refine z_iload dX12_rests_114 rfl ?_
      refine z_iload dX12_rests_116 rfl ?_
      refine z_iconst (v := (1 : Int32)) dX12_rests_118 rfl ?_
      refine z_iload dX12_rests_119 rfl ?_
      refine z_isub dX12_rests_121 ?_
      refine z_callVi (As := [.int y4, .int y6, .int ((1 : Int32) - y7)]) (st := [.int r15, .int y5]) dX12_rests_122 zi_X12_496 rfl rfl zs_0 rfl rfl (Nat.le_of_ble_eq_true rfl) (by decide) (fun _ _ hx => hx) h14 ?_
      intro r18 M16 h17
      refine z_icmp_lt (tgt := 140) dX12_rests_125 (by decide) (fun g19 => ?_) (fun g19 => ?_)
      · have h20 := h17.1 g19
        refine z_weak [true, true, false, true, true, false, true, true] (ls' := [.ref 0, .int y1, zU, .int y3, .int y4, zU, .int y6, .int y7]) rfl rfl ?_
        exact h20
      · have h21 := h17.2 g19
        refine z_iconst (v := (1 : Int32)) dX12_rests_128 rfl ?_
        refine z_iconst (v := (2 : Int32)) dX12_rests_129 rfl ?_
        refine z_iload dX12_rests_130 rfl ?_
        refine z_imul dX12_rests_132 ?_
        refine z_iload dX12_rests_133 rfl ?_
        refine z_iadd dX12_rests_135 ?_
        refine z_ishl dX12_rests_136 ?_
        refine z_goto (tgt := 141) dX12_rests_137 (by decide) ?_
        refine z_weak [true, true, false, true, true, false, true, true] (ls' := [.ref 0, .int y1, zU, .int y3, .int y4, zU, .int y6, .int y7]) rfl rfl ?_
        exact h21
theorem t_X12_rests_140 {E : zEv} {D : Nat} {post : Int32 → zM → Prop} {px : String → zM → Prop} {M : zM}   {y1 : Int32} {y3 : Int32} {y4 : Int32} {y6 : Int32} {y7 : Int32} {s0 : Int32} (h : w_X12_rests_141 E D post px y1 y3 y4 y6 y7 (0 : Int32) s0 M) : w_X12_rests_140 E D post px y1 y3 y4 y6 y7 s0 M := by
  show Z E jX12_rests (D + 1) 0 (zQi post px) 140 0 [.ref 0, .int y1, zU, .int y3, .int y4, zU, .int y6, .int y7] [.int s0] M
  refine z_iconst (v := (0 : Int32)) dX12_rests_140 rfl ?_
  exact h
theorem t_X12_rests_141 {E : zEv} {D : Nat} {post : Int32 → zM → Prop} {px : String → zM → Prop} {M : zM}   {y1 : Int32} {y3 : Int32} {y4 : Int32} {y6 : Int32} {y7 : Int32} {s0 : Int32} {s1 : Int32} (h : w_X12_rests_70 E D post px y1 y3 y4 (s1 ||| s0) y6 (y7 + (1 : Int32)) M) : w_X12_rests_141 E D post px y1 y3 y4 y6 y7 s0 s1 M := by
  show Z E jX12_rests (D + 1) 0 (zQi post px) 141 0 [.ref 0, .int y1, zU, .int y3, .int y4, zU, .int y6, .int y7] [.int s0, .int s1] M
  refine z_ior dX12_rests_141 ?_
  refine z_istore dX12_rests_142 (by decide) (ls' := [.ref 0, .int y1, zU, .int y3, .int y4, .int (s1 ||| s0), .int y6, .int y7]) rfl ?_
  refine z_iinc dX12_rests_144 rfl (by decide) (ls' := [.ref 0, .int y1, zU, .int y3, .int y4, .int (s1 ||| s0), .int y6, .int (y7 + (1 : Int32))]) rfl ?_
  refine z_goto (tgt := 70) dX12_rests_147 (by decide) ?_
  exact h
def w_X12_odds_24 (E : zEv) (D : Nat) (post : Int32 → zM → Prop) (px : String → zM → Prop)  (y1 : Int32) (y2 : Int32) (M : zM) : Prop := Z E jX12_odds (D + 1) 0 (zQi post px) 24 0 [.ref 0, .int y1, .int y2, zU, zU, zU, zU, zU] [.ref 0] M
def w_X12_odds_29 (E : zEv) (D : Nat) (post : Int32 → zM → Prop) (px : String → zM → Prop)  (y1 : Int32) (y2 : Int32) (s0 : Int32) (M : zM) : Prop := Z E jX12_odds (D + 1) 0 (zQi post px) 29 0 [.ref 0, .int y1, .int y2, zU, zU, zU, zU, zU] [.int s0, .ref 0] M
def w_X12_odds_43 (E : zEv) (D : Nat) (post : Int32 → zM → Prop) (px : String → zM → Prop)  (y1 : Int32) (y2 : Int32) (y3 : Int64) (y5 : Int32) (M : zM) : Prop := Z E jX12_odds (D + 1) 0 (zQi post px) 43 0 [.ref 0, .int y1, .int y2, .long y3, zU, .int y5, zU, zU] [] M
def w_X12_odds_75 (E : zEv) (D : Nat) (post : Int32 → zM → Prop) (px : String → zM → Prop)  (y1 : Int32) (y2 : Int32) (y3 : Int64) (y5 : Int32) (M : zM) : Prop := Z E jX12_odds (D + 1) 0 (zQi post px) 75 0 [.ref 0, .int y1, .int y2, .long y3, zU, .int y5, zU, zU] [] M
def w_X12_odds_65 (E : zEv) (D : Nat) (post : Int32 → zM → Prop) (px : String → zM → Prop)  (y1 : Int32) (y2 : Int32) (y3 : Int64) (y5 : Int32) (s0 : Int64) (s1 : Int32) (M : zM) : Prop := Z E jX12_odds (D + 1) 0 (zQi post px) 65 0 [.ref 0, .int y1, .int y2, .long y3, zU, .int y5, zU, zU] [.long s0, .int s1, .ref 17] M
def w_X12_odds_167 (E : zEv) (D : Nat) (post : Int32 → zM → Prop) (px : String → zM → Prop)  (y3 : Int64) (y5 : Int64) (y7 : Int32) (M : zM) : Prop := Z E jX12_odds (D + 1) 0 (zQi post px) 167 0 [.ref 0, zU, zU, .long y3, zU, .long y5, zU, .int y7] [] M
def w_X12_odds_84 (E : zEv) (D : Nat) (post : Int32 → zM → Prop) (px : String → zM → Prop)  (y1 : Int32) (y2 : Int32) (y3 : Int64) (y5 : Int32) (y6 : Int32) (M : zM) : Prop := Z E jX12_odds (D + 1) 0 (zQi post px) 84 0 [.ref 0, .int y1, .int y2, .long y3, zU, .int y5, .int y6, zU] [] M
def w_X12_odds_141 (E : zEv) (D : Nat) (post : Int32 → zM → Prop) (px : String → zM → Prop)  (y1 : Int32) (y2 : Int32) (y3 : Int64) (y5 : Int32) (y6 : Int32) (s0 : Int64) (s1 : Int64) (s2 : Int32) (M : zM) : Prop := Z E jX12_odds (D + 1) 0 (zQi post px) 141 0 [.ref 0, .int y1, .int y2, .long y3, zU, .int y5, .int y6, zU] [.long s0, .long s1, .int s2, .ref 17] M
theorem e_X12_odds {E : zEv} {D : Nat} {post : Int32 → zM → Prop} {px : String → zM → Prop} {M : zM} {x1 : Int32} {x2 : Int32}  (h : ∀ M1 : zM, M1 = zup M 0 0 (0 : Int32) → zCi E jX12_in D 0 [.int x1, .int (0 : Int32), .int (5 : Int32)] M1 (fun r5 M3 => ((r5 = 0 → w_X12_odds_24 E D post px x1 x2 M3) ∧ (¬ r5 = 0 → zCi E jX12_in D 0 [.int x2, .int (0 : Int32), .int (5 : Int32)] M3 (fun r11 M9 => ((¬ r11 = 0 → w_X12_odds_29 E D post px x1 x2 (0 : Int32) M9) ∧ (r11 = 0 → w_X12_odds_24 E D post px x1 x2 M9))) px))) px) : zCi E jX12_odds (D + 1) 0 [.ref 0, .int x1, .int x2] M post px := by
  refine z_meth (by decide) (Nat.le_of_ble_eq_true rfl) ?_
  show Z E jX12_odds (D + 1) 0 (zQi post px) 0 0 [.ref 0, .int x1, .int x2, zU, zU, zU, zU, zU] [] M
  refine z_aload_n dX12_odds_0 rfl ?_
  refine z_iconst (v := (0 : Int32)) dX12_odds_1 rfl ?_
  refine z_putI dX12_odds_2 zp_X12_3 zs_0 rfl rfl rfl ?_
  generalize hhM1 : zup M 0 0 (0 : Int32) = M1
  have h2 := h M1 hhM1.symm
  refine z_aload_n dX12_odds_5 rfl ?_
  refine z_iload_n dX12_odds_6 rfl ?_
  refine z_iconst (v := (0 : Int32)) dX12_odds_7 rfl ?_
  refine z_iconst (v := (5 : Int32)) dX12_odds_8 rfl ?_
  refine z_callSi (As := [.int x1, .int (0 : Int32), .int (5 : Int32)]) (st := [.ref 0]) dX12_odds_9 zi_X12_95 rfl rfl (Nat.le_of_ble_eq_true rfl) (by decide) (fun _ _ hx => hx) h2 ?_
  intro r5 M3 h4
  refine z_if_eq (tgt := 24) dX12_odds_12 (by decide) (fun g6 => ?_) (fun g6 => ?_)
  · have h7 := h4.1 g6
    exact h7
  · have h8 := h4.2 g6
    refine z_iload_n dX12_odds_15 rfl ?_
    refine z_iconst (v := (0 : Int32)) dX12_odds_16 rfl ?_
    refine z_iconst (v := (5 : Int32)) dX12_odds_17 rfl ?_
    refine z_callSi (As := [.int x2, .int (0 : Int32), .int (5 : Int32)]) (st := [.ref 0]) dX12_odds_18 zi_X12_95 rfl rfl (Nat.le_of_ble_eq_true rfl) (by decide) (fun _ _ hx => hx) h8 ?_
    intro r11 M9 h10
    refine z_if_ne (tgt := 28) dX12_odds_21 (by decide) (fun g12 => ?_) (fun g12 => ?_)
    · have h13 := h10.1 g12
      refine z_iconst (v := (0 : Int32)) dX12_odds_28 rfl ?_
      exact h13
    · have h14 := h10.2 g12
      exact h14
theorem t_X12_odds_24 {E : zEv} {D : Nat} {post : Int32 → zM → Prop} {px : String → zM → Prop} {M : zM}   {y1 : Int32} {y2 : Int32} (h : w_X12_odds_29 E D post px y1 y2 (1 : Int32) M) : w_X12_odds_24 E D post px y1 y2 M := by
  show Z E jX12_odds (D + 1) 0 (zQi post px) 24 0 [.ref 0, .int y1, .int y2, zU, zU, zU, zU, zU] [.ref 0] M
  refine z_iconst (v := (1 : Int32)) dX12_odds_24 rfl ?_
  refine z_goto (tgt := 29) dX12_odds_25 (by decide) ?_
  exact h
theorem t_X12_odds_29 {E : zEv} {D : Nat} {post : Int32 → zM → Prop} {px : String → zM → Prop} {M : zM}   {y1 : Int32} {y2 : Int32} {s0 : Int32} (h : zCi E jX12_throwsIf D 0 [.ref 0, .int s0, .int (1 : Int32)] M (fun r3 M1 => ((r3 = 0 → w_X12_odds_43 E D post px y1 y2 (1 : Int64) (0 : Int32) M1) ∧ (¬ r3 = 0 → post (0 : Int32) M1))) px) : w_X12_odds_29 E D post px y1 y2 s0 M := by
  show Z E jX12_odds (D + 1) 0 (zQi post px) 29 0 [.ref 0, .int y1, .int y2, zU, zU, zU, zU, zU] [.int s0, .ref 0] M
  refine z_iconst (v := (1 : Int32)) dX12_odds_29 rfl ?_
  refine z_callVi (As := [.int s0, .int (1 : Int32)]) (st := []) dX12_odds_30 zi_X12_282 rfl rfl zs_0 rfl rfl (Nat.le_of_ble_eq_true rfl) (by decide) (fun _ _ hx => hx) h ?_
  intro r3 M1 h2
  refine z_if_eq (tgt := 38) dX12_odds_33 (by decide) (fun g4 => ?_) (fun g4 => ?_)
  · have h5 := h2.1 g4
    refine z_lconst (v := (1 : Int64)) dX12_odds_38 rfl ?_
    refine z_lstore_n dX12_odds_39 (by decide) (ls' := [.ref 0, .int y1, .int y2, .long (1 : Int64), zU, zU, zU, zU]) rfl ?_
    refine z_iconst (v := (0 : Int32)) dX12_odds_40 rfl ?_
    refine z_istore dX12_odds_41 (by decide) (ls' := [.ref 0, .int y1, .int y2, .long (1 : Int64), zU, .int (0 : Int32), zU, zU]) rfl ?_
    exact h5
  · have h6 := h2.2 g4
    refine z_iconst (v := (0 : Int32)) dX12_odds_36 rfl ?_
    exact z_iret dX12_odds_37 rfl rfl (by decide) h6
theorem t_X12_odds_43 {E : zEv} {D : Nat} {post : Int32 → zM → Prop} {px : String → zM → Prop} {M : zM}   {y1 : Int32} {y2 : Int32} {y3 : Int64} {y5 : Int32} (h : (((5 : Int32) < y5 → w_X12_odds_75 E D post px y1 y2 y3 (0 : Int32) M) ∧ (¬ (5 : Int32) < y5 → ((¬ y5 = 0 → w_X12_odds_65 E D post px y1 y2 y3 y5 (0 : Int64) y5 M) ∧ (y5 = 0 → w_X12_odds_65 E D post px y1 y2 y3 y5 (1 : Int64) y5 M))))) : w_X12_odds_43 E D post px y1 y2 y3 y5 M := by
  show Z E jX12_odds (D + 1) 0 (zQi post px) 43 0 [.ref 0, .int y1, .int y2, .long y3, zU, .int y5, zU, zU] [] M
  refine z_iload dX12_odds_43 rfl ?_
  refine z_iconst (v := (5 : Int32)) dX12_odds_45 rfl ?_
  refine z_icmp_gt (tgt := 72) dX12_odds_46 (by decide) (fun g1 => ?_) (fun g1 => ?_)
  · have h2 := h.1 g1
    refine z_iconst (v := (0 : Int32)) dX12_odds_72 rfl ?_
    refine z_istore dX12_odds_73 (by decide) (ls' := [.ref 0, .int y1, .int y2, .long y3, zU, .int (0 : Int32), zU, zU]) rfl ?_
    exact h2
  · have h3 := h.2 g1
    refine z_aload_n dX12_odds_49 rfl ?_
    refine z_getR dX12_odds_50 zg_X12_67 zs_0 rfl ?_
    refine z_iload dX12_odds_53 rfl ?_
    refine z_iload dX12_odds_55 rfl ?_
    refine z_if_ne (tgt := 64) dX12_odds_57 (by decide) (fun g4 => ?_) (fun g4 => ?_)
    · have h5 := h3.1 g4
      refine z_lconst (v := (0 : Int64)) dX12_odds_64 rfl ?_
      exact h5
    · have h6 := h3.2 g4
      refine z_lconst (v := (1 : Int64)) dX12_odds_60 rfl ?_
      refine z_goto (tgt := 65) dX12_odds_61 (by decide) ?_
      exact h6
theorem t_X12_odds_75 {E : zEv} {D : Nat} {post : Int32 → zM → Prop} {px : String → zM → Prop} {M : zM}   {y1 : Int32} {y2 : Int32} {y3 : Int64} {y5 : Int32} (h : ((y1 ≤ y5 → w_X12_odds_167 E D post px y3 (0 : Int64) y2 M) ∧ (¬ y1 ≤ y5 → w_X12_odds_84 E D post px y1 y2 y3 y5 (5 : Int32) M))) : w_X12_odds_75 E D post px y1 y2 y3 y5 M := by
  show Z E jX12_odds (D + 1) 0 (zQi post px) 75 0 [.ref 0, .int y1, .int y2, .long y3, zU, .int y5, zU, zU] [] M
  refine z_iload dX12_odds_75 rfl ?_
  refine z_iload_n dX12_odds_77 rfl ?_
  refine z_icmp_ge (tgt := 161) dX12_odds_78 (by decide) (fun g1 => ?_) (fun g1 => ?_)
  · have h2 := h.1 g1
    refine z_lconst (v := (0 : Int64)) dX12_odds_161 rfl ?_
    refine z_lstore dX12_odds_162 (by decide) (ls' := [.ref 0, .int y1, .int y2, .long y3, zU, .long (0 : Int64), zU, zU]) rfl ?_
    refine z_iload_n dX12_odds_164 rfl ?_
    refine z_istore dX12_odds_165 (by decide) (ls' := [.ref 0, .int y1, .int y2, .long y3, zU, .long (0 : Int64), zU, .int y2]) rfl ?_
    refine z_weak [true, false, false, true, false, true, false, true] (ls' := [.ref 0, zU, zU, .long y3, zU, .long (0 : Int64), zU, .int y2]) rfl rfl ?_
    exact h2
  · have h3 := h.2 g1
    refine z_iconst (v := (5 : Int32)) dX12_odds_81 rfl ?_
    refine z_istore dX12_odds_82 (by decide) (ls' := [.ref 0, .int y1, .int y2, .long y3, zU, .int y5, .int (5 : Int32), zU]) rfl ?_
    exact h3
theorem t_X12_odds_65 {E : zEv} {D : Nat} {post : Int32 → zM → Prop} {px : String → zM → Prop} {M : zM}   {y1 : Int32} {y2 : Int32} {y3 : Int64} {y5 : Int32} {s0 : Int64} {s1 : Int32} (h : vp_in s1 6 ∧ ∀ M3 : zM, M3 = zupL M 17 (s1).toNatClampNeg s0 → w_X12_odds_43 E D post px y1 y2 y3 (y5 + (1 : Int32)) M3) : w_X12_odds_65 E D post px y1 y2 y3 y5 s0 s1 M := by
  show Z E jX12_odds (D + 1) 0 (zQi post px) 65 0 [.ref 0, .int y1, .int y2, .long y3, zU, .int y5, zU, zU] [.long s0, .int s1, .ref 17] M
  obtain ⟨g2, h1⟩ := h
  refine z_last dX12_odds_65 zs_17 g2 ?_
  generalize hhM3 : zupL M 17 (s1).toNatClampNeg s0 = M3
  have h4 := h1 M3 hhM3.symm
  refine z_iinc dX12_odds_66 rfl (by decide) (ls' := [.ref 0, .int y1, .int y2, .long y3, zU, .int (y5 + (1 : Int32)), zU, zU]) rfl ?_
  refine z_goto (tgt := 43) dX12_odds_69 (by decide) ?_
  exact h4
theorem t_X12_odds_167 {E : zEv} {D : Nat} {post : Int32 → zM → Prop} {px : String → zM → Prop} {M : zM}   {y3 : Int64} {y5 : Int64} {y7 : Int32} (h : (((5 : Int32) < y7 → ¬ y3 = 0 ∧ post (((((10000 : Int64) * y5) / y3)).toInt32) M) ∧ (¬ (5 : Int32) < y7 → vp_in y7 6 ∧ w_X12_odds_167 E D post px y3 (y5 + (M.2 17 (y7).toNatClampNeg)) (y7 + (1 : Int32)) M))) : w_X12_odds_167 E D post px y3 y5 y7 M := by
  show Z E jX12_odds (D + 1) 0 (zQi post px) 167 0 [.ref 0, zU, zU, .long y3, zU, .long y5, zU, .int y7] [] M
  refine z_iload dX12_odds_167 rfl ?_
  refine z_iconst (v := (5 : Int32)) dX12_odds_169 rfl ?_
  refine z_icmp_gt (tgt := 191) dX12_odds_170 (by decide) (fun g1 => ?_) (fun g1 => ?_)
  · have h2 := h.1 g1
    refine z_ldc2 (v := (10000 : Int64)) dX12_odds_191 zw_2177 ?_
    refine z_lload dX12_odds_194 rfl ?_
    refine z_lmul dX12_odds_196 ?_
    refine z_lload_n dX12_odds_197 rfl ?_
    obtain ⟨g5, h4⟩ := h2
    refine z_ldiv dX12_odds_198 g5 ?_
    refine z_l2i (v := (((((10000 : Int64) * y5) / y3)).toInt32)) dX12_odds_199 rfl ?_
    exact z_iret dX12_odds_200 rfl rfl (by decide) h4
  · have h3 := h.2 g1
    refine z_lload dX12_odds_173 rfl ?_
    refine z_aload_n dX12_odds_175 rfl ?_
    refine z_getR dX12_odds_176 zg_X12_67 zs_0 rfl ?_
    refine z_iload dX12_odds_179 rfl ?_
    obtain ⟨g7, h6⟩ := h3
    refine z_lald dX12_odds_181 zs_17 g7 ?_
    refine z_ladd dX12_odds_182 ?_
    refine z_lstore dX12_odds_183 (by decide) (ls' := [.ref 0, zU, zU, .long y3, zU, .long (y5 + (M.2 17 (y7).toNatClampNeg)), zU, .int y7]) rfl ?_
    refine z_iinc dX12_odds_185 rfl (by decide) (ls' := [.ref 0, zU, zU, .long y3, zU, .long (y5 + (M.2 17 (y7).toNatClampNeg)), zU, .int (y7 + (1 : Int32))]) rfl ?_
    refine z_goto (tgt := 167) dX12_odds_188 (by decide) ?_
    exact h6
theorem t_X12_odds_84 {E : zEv} {D : Nat} {post : Int32 → zM → Prop} {px : String → zM → Prop} {M : zM}   {y1 : Int32} {y2 : Int32} {y3 : Int64} {y5 : Int32} {y6 : Int32} (h : ((y6 < 0 → w_X12_odds_75 E D post px y1 y2 (y3 * (100 : Int64)) (y5 + (1 : Int32)) M) ∧ (¬ y6 < 0 → vp_in y6 6 ∧ ((¬ y6 = 0 → vp_in (y6 - (1 : Int32)) 6 ∧ w_X12_odds_141 E D post px y1 y2 y3 y5 y6 ((M.2 17 ((y6 - (1 : Int32))).toNatClampNeg) * (((M.1 1 ((8 : Int32)).toNatClampNeg)).toInt64)) ((M.2 17 (y6).toNatClampNeg) * ((((100 : Int32) - (M.1 1 ((8 : Int32)).toNatClampNeg))).toInt64)) y6 M) ∧ (y6 = 0 → w_X12_odds_141 E D post px y1 y2 y3 y5 y6 (0 : Int64) ((M.2 17 (y6).toNatClampNeg) * ((((100 : Int32) - (M.1 1 ((8 : Int32)).toNatClampNeg))).toInt64)) y6 M))))) : w_X12_odds_84 E D post px y1 y2 y3 y5 y6 M := by
  show Z E jX12_odds (D + 1) 0 (zQi post px) 84 0 [.ref 0, .int y1, .int y2, .long y3, zU, .int y5, .int y6, zU] [] M
  refine z_iload dX12_odds_84 rfl ?_
  refine z_if_lt (tgt := 149) dX12_odds_86 (by decide) (fun g1 => ?_) (fun g1 => ?_)
  · have h2 := h.1 g1
    refine z_lload_n dX12_odds_149 rfl ?_
    refine z_ldc2 (v := (100 : Int64)) dX12_odds_150 zw_2176 ?_
    refine z_lmul dX12_odds_153 ?_
    refine z_lstore_n dX12_odds_154 (by decide) (ls' := [.ref 0, .int y1, .int y2, .long (y3 * (100 : Int64)), zU, .int y5, .int y6, zU]) rfl ?_
    refine z_iinc dX12_odds_155 rfl (by decide) (ls' := [.ref 0, .int y1, .int y2, .long (y3 * (100 : Int64)), zU, .int (y5 + (1 : Int32)), .int y6, zU]) rfl ?_
    refine z_goto (tgt := 75) dX12_odds_158 (by decide) ?_
    refine z_weak [true, true, true, true, false, true, false, false] (ls' := [.ref 0, .int y1, .int y2, .long (y3 * (100 : Int64)), zU, .int (y5 + (1 : Int32)), zU, zU]) rfl rfl ?_
    exact h2
  · have h3 := h.2 g1
    refine z_aload_n dX12_odds_89 rfl ?_
    refine z_getR dX12_odds_90 zg_X12_67 zs_0 rfl ?_
    refine z_iload dX12_odds_93 rfl ?_
    refine z_aload_n dX12_odds_95 rfl ?_
    refine z_getR dX12_odds_96 zg_X12_67 zs_0 rfl ?_
    refine z_iload dX12_odds_99 rfl ?_
    obtain ⟨g5, h4⟩ := h3
    refine z_lald dX12_odds_101 zs_17 g5 ?_
    refine z_bipush (v := (100 : Int32)) dX12_odds_102 rfl ?_
    refine z_aload_n dX12_odds_104 rfl ?_
    refine z_getR dX12_odds_105 zg_X12_13 zs_0 rfl ?_
    refine z_bipush (v := (8 : Int32)) dX12_odds_108 rfl ?_
    refine z_iald dX12_odds_110 zs_1 (by unfold vp_in; decide) ?_
    refine z_isub dX12_odds_111 ?_
    refine z_i2l (v := ((((100 : Int32) - (M.1 1 ((8 : Int32)).toNatClampNeg))).toInt64)) dX12_odds_112 rfl ?_
    refine z_lmul dX12_odds_113 ?_
    refine z_iload dX12_odds_114 rfl ?_
    refine z_if_ne (tgt := 123) dX12_odds_116 (by decide) (fun g6 => ?_) (fun g6 => ?_)
    · have h7 := h4.1 g6
      refine z_aload_n dX12_odds_123 rfl ?_
      refine z_getR dX12_odds_124 zg_X12_67 zs_0 rfl ?_
      refine z_iload dX12_odds_127 rfl ?_
      refine z_iconst (v := (1 : Int32)) dX12_odds_129 rfl ?_
      refine z_isub dX12_odds_130 ?_
      obtain ⟨g10, h9⟩ := h7
      refine z_lald dX12_odds_131 zs_17 g10 ?_
      refine z_aload_n dX12_odds_132 rfl ?_
      refine z_getR dX12_odds_133 zg_X12_13 zs_0 rfl ?_
      refine z_bipush (v := (8 : Int32)) dX12_odds_136 rfl ?_
      refine z_iald dX12_odds_138 zs_1 (by unfold vp_in; decide) ?_
      refine z_i2l (v := (((M.1 1 ((8 : Int32)).toNatClampNeg)).toInt64)) dX12_odds_139 rfl ?_
      refine z_lmul dX12_odds_140 ?_
      exact h9
    · have h8 := h4.2 g6
      refine z_lconst (v := (0 : Int64)) dX12_odds_119 rfl ?_
      refine z_goto (tgt := 141) dX12_odds_120 (by decide) ?_
      exact h8
theorem t_X12_odds_141 {E : zEv} {D : Nat} {post : Int32 → zM → Prop} {px : String → zM → Prop} {M : zM}   {y1 : Int32} {y2 : Int32} {y3 : Int64} {y5 : Int32} {y6 : Int32} {s0 : Int64} {s1 : Int64} {s2 : Int32} (h : vp_in s2 6 ∧ ∀ M3 : zM, M3 = zupL M 17 (s2).toNatClampNeg (s1 + s0) → w_X12_odds_84 E D post px y1 y2 y3 y5 (y6 + (-1 : Int32)) M3) : w_X12_odds_141 E D post px y1 y2 y3 y5 y6 s0 s1 s2 M := by
  show Z E jX12_odds (D + 1) 0 (zQi post px) 141 0 [.ref 0, .int y1, .int y2, .long y3, zU, .int y5, .int y6, zU] [.long s0, .long s1, .int s2, .ref 17] M
  refine z_ladd dX12_odds_141 ?_
  obtain ⟨g2, h1⟩ := h
  refine z_last dX12_odds_142 zs_17 g2 ?_
  generalize hhM3 : zupL M 17 (s2).toNatClampNeg (s1 + s0) = M3
  have h4 := h1 M3 hhM3.symm
  refine z_iinc dX12_odds_143 rfl (by decide) (ls' := [.ref 0, .int y1, .int y2, .long y3, zU, .int y5, .int (y6 + (-1 : Int32)), zU]) rfl ?_
  refine z_goto (tgt := 84) dX12_odds_146 (by decide) ?_
  exact h4
def w_X12_weightiest_9 (E : zEv) (D : Nat) (post : Int32 → zM → Prop) (px : String → zM → Prop)  (y1 : Int32) (y2 : Int32) (M : zM) : Prop := Z E jX12_weightiest (D + 1) 0 (zQi post px) 9 0 [.ref 0, .int y1, .int y2] [] M
def w_X12_weightiest_37 (E : zEv) (D : Nat) (post : Int32 → zM → Prop) (px : String → zM → Prop)  (y2 : Int32) (M : zM) : Prop := Z E jX12_weightiest (D + 1) 0 (zQi post px) 37 0 [.ref 0, zU, .int y2] [] M
def w_X12_weightiest_39 (E : zEv) (D : Nat) (post : Int32 → zM → Prop) (px : String → zM → Prop)  (y1 : Int32) (y2 : Int32) (M : zM) : Prop := Z E jX12_weightiest (D + 1) 0 (zQi post px) 39 0 [.ref 0, .int y1, .int y2] [] M
theorem e_X12_weightiest {E : zEv} {D : Nat} {post : Int32 → zM → Prop} {px : String → zM → Prop} {M : zM}   (h : ∀ M1 : zM, M1 = zup M 0 0 (0 : Int32) → w_X12_weightiest_9 E D post px (-1 : Int32) (0 : Int32) M1) : zCi E jX12_weightiest (D + 1) 0 [.ref 0] M post px := by
  refine z_meth (by decide) (Nat.le_of_ble_eq_true rfl) ?_
  show Z E jX12_weightiest (D + 1) 0 (zQi post px) 0 0 [.ref 0, zU, zU] [] M
  refine z_aload_n dX12_weightiest_0 rfl ?_
  refine z_iconst (v := (0 : Int32)) dX12_weightiest_1 rfl ?_
  refine z_putI dX12_weightiest_2 zp_X12_3 zs_0 rfl rfl rfl ?_
  generalize hhM1 : zup M 0 0 (0 : Int32) = M1
  have h2 := h M1 hhM1.symm
  refine z_iconst (v := (-1 : Int32)) dX12_weightiest_5 rfl ?_
  refine z_istore_n dX12_weightiest_6 (by decide) (ls' := [.ref 0, .int (-1 : Int32), zU]) rfl ?_
  refine z_iconst (v := (0 : Int32)) dX12_weightiest_7 rfl ?_
  refine z_istore_n dX12_weightiest_8 (by decide) (ls' := [.ref 0, .int (-1 : Int32), .int (0 : Int32)]) rfl ?_
  exact h2
theorem t_X12_weightiest_9 {E : zEv} {D : Nat} {post : Int32 → zM → Prop} {px : String → zM → Prop} {M : zM}   {y1 : Int32} {y2 : Int32} (h : zCi E jX12_things D 0 [.ref 0] M (fun r3 M1 => ((r3 ≤ y2 → post y1 M1) ∧ (¬ r3 ≤ y2 → ((y1 = (-1 : Int32) → w_X12_weightiest_37 E D post px y2 M1) ∧ (¬ y1 = (-1 : Int32) → zCi E jX12_ofThing D 0 [.ref 0, .int y2, .int (0 : Int32)] M1 (fun r12 M10 => zCi E jX12_ofThing D 0 [.ref 0, .int y1, .int (0 : Int32)] M10 (fun r15 M13 => ((r12 ≤ r15 → w_X12_weightiest_39 E D post px y1 y2 M13) ∧ (¬ r12 ≤ r15 → w_X12_weightiest_37 E D post px y2 M13))) px) px))))) px) : w_X12_weightiest_9 E D post px y1 y2 M := by
  show Z E jX12_weightiest (D + 1) 0 (zQi post px) 9 0 [.ref 0, .int y1, .int y2] [] M
  refine z_iload_n dX12_weightiest_9 rfl ?_
  refine z_aload_n dX12_weightiest_10 rfl ?_
  refine z_callVi (As := []) (st := [.int y2]) dX12_weightiest_11 zi_X12_85 rfl rfl zs_0 rfl rfl (Nat.le_of_ble_eq_true rfl) (by decide) (fun _ _ hx => hx) h ?_
  intro r3 M1 h2
  refine z_icmp_ge (tgt := 45) dX12_weightiest_14 (by decide) (fun g4 => ?_) (fun g4 => ?_)
  · have h5 := h2.1 g4
    refine z_iload_n dX12_weightiest_45 rfl ?_
    exact z_iret dX12_weightiest_46 rfl rfl (by decide) h5
  · have h6 := h2.2 g4
    refine z_iload_n dX12_weightiest_17 rfl ?_
    refine z_iconst (v := (-1 : Int32)) dX12_weightiest_18 rfl ?_
    refine z_icmp_eq (tgt := 37) dX12_weightiest_19 (by decide) (fun g7 => ?_) (fun g7 => ?_)
    · have h8 := h6.1 g7
      refine z_weak [true, false, true] (ls' := [.ref 0, zU, .int y2]) rfl rfl ?_
      exact h8
    · have h9 := h6.2 g7
      refine z_aload_n dX12_weightiest_22 rfl ?_
      refine z_iload_n dX12_weightiest_23 rfl ?_
      refine z_iconst (v := (0 : Int32)) dX12_weightiest_24 rfl ?_
      refine z_callVi (As := [.int y2, .int (0 : Int32)]) (st := []) dX12_weightiest_25 zi_X12_89 rfl rfl zs_0 rfl rfl (Nat.le_of_ble_eq_true rfl) (by decide) (fun _ _ hx => hx) h9 ?_
      intro r12 M10 h11
      refine z_aload_n dX12_weightiest_28 rfl ?_
      refine z_iload_n dX12_weightiest_29 rfl ?_
      refine z_iconst (v := (0 : Int32)) dX12_weightiest_30 rfl ?_
      refine z_callVi (As := [.int y1, .int (0 : Int32)]) (st := [.int r12]) dX12_weightiest_31 zi_X12_89 rfl rfl zs_0 rfl rfl (Nat.le_of_ble_eq_true rfl) (by decide) (fun _ _ hx => hx) h11 ?_
      intro r15 M13 h14
      refine z_icmp_le (tgt := 39) dX12_weightiest_34 (by decide) (fun g16 => ?_) (fun g16 => ?_)
      · have h17 := h14.1 g16
        exact h17
      · have h18 := h14.2 g16
        refine z_weak [true, false, true] (ls' := [.ref 0, zU, .int y2]) rfl rfl ?_
        exact h18
theorem t_X12_weightiest_37 {E : zEv} {D : Nat} {post : Int32 → zM → Prop} {px : String → zM → Prop} {M : zM}   {y2 : Int32} (h : w_X12_weightiest_39 E D post px y2 y2 M) : w_X12_weightiest_37 E D post px y2 M := by
  show Z E jX12_weightiest (D + 1) 0 (zQi post px) 37 0 [.ref 0, zU, .int y2] [] M
  refine z_iload_n dX12_weightiest_37 rfl ?_
  refine z_istore_n dX12_weightiest_38 (by decide) (ls' := [.ref 0, .int y2, .int y2]) rfl ?_
  exact h
theorem t_X12_weightiest_39 {E : zEv} {D : Nat} {post : Int32 → zM → Prop} {px : String → zM → Prop} {M : zM}   {y1 : Int32} {y2 : Int32} (h : w_X12_weightiest_9 E D post px y1 (y2 + (1 : Int32)) M) : w_X12_weightiest_39 E D post px y1 y2 M := by
  show Z E jX12_weightiest (D + 1) 0 (zQi post px) 39 0 [.ref 0, .int y1, .int y2] [] M
  refine z_iinc dX12_weightiest_39 rfl (by decide) (ls' := [.ref 0, .int y1, .int (y2 + (1 : Int32))]) rfl ?_
  refine z_goto (tgt := 9) dX12_weightiest_42 (by decide) ?_
  exact h
def w_X12_twins_9 (E : zEv) (D : Nat) (post : Int32 → zM → Prop) (px : String → zM → Prop)  (y1 : Int32) (y2 : Int32) (M : zM) : Prop := Z E jX12_twins (D + 1) 0 (zQi post px) 9 0 [.ref 0, .int y1, .int y2, zU] [] M
def w_X12_twins_19 (E : zEv) (D : Nat) (post : Int32 → zM → Prop) (px : String → zM → Prop)  (y1 : Int32) (y2 : Int32) (y3 : Int32) (M : zM) : Prop := Z E jX12_twins (D + 1) 0 (zQi post px) 19 0 [.ref 0, .int y1, .int y2, .int y3] [] M
def w_X12_twins_59 (E : zEv) (D : Nat) (post : Int32 → zM → Prop) (px : String → zM → Prop)  (y2 : Int32) (y3 : Int32) (s0 : Int32) (M : zM) : Prop := Z E jX12_twins (D + 1) 0 (zQi post px) 59 0 [.ref 0, zU, .int y2, .int y3] [.int s0] M
def w_X12_twins_60 (E : zEv) (D : Nat) (post : Int32 → zM → Prop) (px : String → zM → Prop)  (y2 : Int32) (y3 : Int32) (s0 : Int32) (s1 : Int32) (M : zM) : Prop := Z E jX12_twins (D + 1) 0 (zQi post px) 60 0 [.ref 0, zU, .int y2, .int y3] [.int s0, .int s1] M
theorem e_X12_twins {E : zEv} {D : Nat} {post : Int32 → zM → Prop} {px : String → zM → Prop} {M : zM}   (h : ∀ M1 : zM, M1 = zup M 0 0 (0 : Int32) → w_X12_twins_9 E D post px (0 : Int32) (0 : Int32) M1) : zCi E jX12_twins (D + 1) 0 [.ref 0] M post px := by
  refine z_meth (by decide) (Nat.le_of_ble_eq_true rfl) ?_
  show Z E jX12_twins (D + 1) 0 (zQi post px) 0 0 [.ref 0, zU, zU, zU] [] M
  refine z_aload_n dX12_twins_0 rfl ?_
  refine z_iconst (v := (0 : Int32)) dX12_twins_1 rfl ?_
  refine z_putI dX12_twins_2 zp_X12_3 zs_0 rfl rfl rfl ?_
  generalize hhM1 : zup M 0 0 (0 : Int32) = M1
  have h2 := h M1 hhM1.symm
  refine z_iconst (v := (0 : Int32)) dX12_twins_5 rfl ?_
  refine z_istore_n dX12_twins_6 (by decide) (ls' := [.ref 0, .int (0 : Int32), zU, zU]) rfl ?_
  refine z_iconst (v := (0 : Int32)) dX12_twins_7 rfl ?_
  refine z_istore_n dX12_twins_8 (by decide) (ls' := [.ref 0, .int (0 : Int32), .int (0 : Int32), zU]) rfl ?_
  exact h2
theorem t_X12_twins_9 {E : zEv} {D : Nat} {post : Int32 → zM → Prop} {px : String → zM → Prop} {M : zM}   {y1 : Int32} {y2 : Int32} (h : zCi E jX12_witnesses D 0 [.ref 0] M (fun r3 M1 => ((r3 ≤ y2 → post y1 M1) ∧ (¬ r3 ≤ y2 → w_X12_twins_19 E D post px y1 y2 (0 : Int32) M1))) px) : w_X12_twins_9 E D post px y1 y2 M := by
  show Z E jX12_twins (D + 1) 0 (zQi post px) 9 0 [.ref 0, .int y1, .int y2, zU] [] M
  refine z_iload_n dX12_twins_9 rfl ?_
  refine z_aload_n dX12_twins_10 rfl ?_
  refine z_callVi (As := []) (st := [.int y2]) dX12_twins_11 zi_X12_92 rfl rfl zs_0 rfl rfl (Nat.le_of_ble_eq_true rfl) (by decide) (fun _ _ hx => hx) h ?_
  intro r3 M1 h2
  refine z_icmp_ge (tgt := 74) dX12_twins_14 (by decide) (fun g4 => ?_) (fun g4 => ?_)
  · have h5 := h2.1 g4
    refine z_iload_n dX12_twins_74 rfl ?_
    exact z_iret dX12_twins_75 rfl rfl (by decide) h5
  · have h6 := h2.2 g4
    refine z_iconst (v := (0 : Int32)) dX12_twins_17 rfl ?_
    refine z_istore_n dX12_twins_18 (by decide) (ls' := [.ref 0, .int y1, .int y2, .int (0 : Int32)]) rfl ?_
    exact h6
theorem t_X12_twins_19 {E : zEv} {D : Nat} {post : Int32 → zM → Prop} {px : String → zM → Prop} {M : zM}   {y1 : Int32} {y2 : Int32} {y3 : Int32} (h : ((y2 ≤ y3 → w_X12_twins_9 E D post px y1 (y2 + (1 : Int32)) M) ∧ (¬ y2 ≤ y3 → zCi E jX12_of D 0 [.ref 0, .int y2, .int (0 : Int32)] M (fun r6 M4 => zCi E jX12_of D 0 [.ref 0, .int y3, .int (0 : Int32)] M4 (fun r9 M7 => ((¬ r6 = r9 → w_X12_twins_59 E D post px y2 y3 y1 M7) ∧ (r6 = r9 → zCi E jX12_of D 0 [.ref 0, .int y2, .int (1 : Int32)] M7 (fun r15 M13 => zCi E jX12_of D 0 [.ref 0, .int y3, .int (1 : Int32)] M13 (fun r18 M16 => ((¬ r15 = r18 → w_X12_twins_59 E D post px y2 y3 y1 M16) ∧ (r15 = r18 → w_X12_twins_60 E D post px y2 y3 (1 : Int32) y1 M16))) px) px))) px) px))) : w_X12_twins_19 E D post px y1 y2 y3 M := by
  show Z E jX12_twins (D + 1) 0 (zQi post px) 19 0 [.ref 0, .int y1, .int y2, .int y3] [] M
  refine z_iload_n dX12_twins_19 rfl ?_
  refine z_iload_n dX12_twins_20 rfl ?_
  refine z_icmp_ge (tgt := 68) dX12_twins_21 (by decide) (fun g1 => ?_) (fun g1 => ?_)
  · have h2 := h.1 g1
    refine z_iinc dX12_twins_68 rfl (by decide) (ls' := [.ref 0, .int y1, .int (y2 + (1 : Int32)), .int y3]) rfl ?_
    refine z_goto (tgt := 9) dX12_twins_71 (by decide) ?_
    refine z_weak [true, true, true, false] (ls' := [.ref 0, .int y1, .int (y2 + (1 : Int32)), zU]) rfl rfl ?_
    exact h2
  · have h3 := h.2 g1
    refine z_iload_n dX12_twins_24 rfl ?_
    refine z_aload_n dX12_twins_25 rfl ?_
    refine z_iload_n dX12_twins_26 rfl ?_
    refine z_iconst (v := (0 : Int32)) dX12_twins_27 rfl ?_
    refine z_callVi (As := [.int y2, .int (0 : Int32)]) (st := [.int y1]) dX12_twins_28 zi_X12_285 rfl rfl zs_0 rfl rfl (Nat.le_of_ble_eq_true rfl) (by decide) (fun _ _ hx => hx) h3 ?_
    intro r6 M4 h5
    refine z_aload_n dX12_twins_31 rfl ?_
    refine z_iload_n dX12_twins_32 rfl ?_
    refine z_iconst (v := (0 : Int32)) dX12_twins_33 rfl ?_
    refine z_callVi (As := [.int y3, .int (0 : Int32)]) (st := [.int r6, .int y1]) dX12_twins_34 zi_X12_285 rfl rfl zs_0 rfl rfl (Nat.le_of_ble_eq_true rfl) (by decide) (fun _ _ hx => hx) h5 ?_
    intro r9 M7 h8
    refine z_icmp_ne (tgt := 59) dX12_twins_37 (by decide) (fun g10 => ?_) (fun g10 => ?_)
    · have h11 := h8.1 g10
      refine z_weak [true, false, true, true] (ls' := [.ref 0, zU, .int y2, .int y3]) rfl rfl ?_
      exact h11
    · have h12 := h8.2 g10
      refine z_aload_n dX12_twins_40 rfl ?_
      refine z_iload_n dX12_twins_41 rfl ?_
      refine z_iconst (v := (1 : Int32)) dX12_twins_42 rfl ?_
      refine z_callVi (As := [.int y2, .int (1 : Int32)]) (st := [.int y1]) dX12_twins_43 zi_X12_285 rfl rfl zs_0 rfl rfl (Nat.le_of_ble_eq_true rfl) (by decide) (fun _ _ hx => hx) h12 ?_
      intro r15 M13 h14
      refine z_aload_n dX12_twins_46 rfl ?_
      refine z_iload_n dX12_twins_47 rfl ?_
      refine z_iconst (v := (1 : Int32)) dX12_twins_48 rfl ?_
      refine z_callVi (As := [.int y3, .int (1 : Int32)]) (st := [.int r15, .int y1]) dX12_twins_49 zi_X12_285 rfl rfl zs_0 rfl rfl (Nat.le_of_ble_eq_true rfl) (by decide) (fun _ _ hx => hx) h14 ?_
      intro r18 M16 h17
      refine z_icmp_ne (tgt := 59) dX12_twins_52 (by decide) (fun g19 => ?_) (fun g19 => ?_)
      · have h20 := h17.1 g19
        refine z_weak [true, false, true, true] (ls' := [.ref 0, zU, .int y2, .int y3]) rfl rfl ?_
        exact h20
      · have h21 := h17.2 g19
        refine z_iconst (v := (1 : Int32)) dX12_twins_55 rfl ?_
        refine z_goto (tgt := 60) dX12_twins_56 (by decide) ?_
        refine z_weak [true, false, true, true] (ls' := [.ref 0, zU, .int y2, .int y3]) rfl rfl ?_
        exact h21
theorem t_X12_twins_59 {E : zEv} {D : Nat} {post : Int32 → zM → Prop} {px : String → zM → Prop} {M : zM}   {y2 : Int32} {y3 : Int32} {s0 : Int32} (h : w_X12_twins_60 E D post px y2 y3 (0 : Int32) s0 M) : w_X12_twins_59 E D post px y2 y3 s0 M := by
  show Z E jX12_twins (D + 1) 0 (zQi post px) 59 0 [.ref 0, zU, .int y2, .int y3] [.int s0] M
  refine z_iconst (v := (0 : Int32)) dX12_twins_59 rfl ?_
  exact h
theorem t_X12_twins_60 {E : zEv} {D : Nat} {post : Int32 → zM → Prop} {px : String → zM → Prop} {M : zM}   {y2 : Int32} {y3 : Int32} {s0 : Int32} {s1 : Int32} (h : w_X12_twins_19 E D post px (s1 + s0) y2 (y3 + (1 : Int32)) M) : w_X12_twins_60 E D post px y2 y3 s0 s1 M := by
  show Z E jX12_twins (D + 1) 0 (zQi post px) 60 0 [.ref 0, zU, .int y2, .int y3] [.int s0, .int s1] M
  refine z_iadd dX12_twins_60 ?_
  refine z_istore_n dX12_twins_61 (by decide) (ls' := [.ref 0, .int (s1 + s0), .int y2, .int y3]) rfl ?_
  refine z_iinc dX12_twins_62 rfl (by decide) (ls' := [.ref 0, .int (s1 + s0), .int y2, .int (y3 + (1 : Int32))]) rfl ?_
  refine z_goto (tgt := 19) dX12_twins_65 (by decide) ?_
  exact h
def w_X12_blind_9 (E : zEv) (D : Nat) (post : Int32 → zM → Prop) (px : String → zM → Prop)  (y1 : Int32) (y2 : Int32) (M : zM) : Prop := Z E jX12_blind (D + 1) 0 (zQi post px) 9 0 [.ref 0, .int y1, .int y2, zU, zU] [] M
def w_X12_blind_22 (E : zEv) (D : Nat) (post : Int32 → zM → Prop) (px : String → zM → Prop)  (y1 : Int32) (y2 : Int32) (y3 : Int32) (y4 : Int32) (M : zM) : Prop := Z E jX12_blind (D + 1) 0 (zQi post px) 22 0 [.ref 0, .int y1, .int y2, .int y3, .int y4] [] M
def w_X12_blind_59 (E : zEv) (D : Nat) (post : Int32 → zM → Prop) (px : String → zM → Prop)  (y2 : Int32) (s0 : Int32) (s1 : Int32) (M : zM) : Prop := Z E jX12_blind (D + 1) 0 (zQi post px) 59 0 [.ref 0, zU, .int y2, zU, zU] [.int s0, .int s1] M
theorem e_X12_blind {E : zEv} {D : Nat} {post : Int32 → zM → Prop} {px : String → zM → Prop} {M : zM}   (h : ∀ M1 : zM, M1 = zup M 0 0 (0 : Int32) → w_X12_blind_9 E D post px (0 : Int32) (0 : Int32) M1) : zCi E jX12_blind (D + 1) 0 [.ref 0] M post px := by
  refine z_meth (by decide) (Nat.le_of_ble_eq_true rfl) ?_
  show Z E jX12_blind (D + 1) 0 (zQi post px) 0 0 [.ref 0, zU, zU, zU, zU] [] M
  refine z_aload_n dX12_blind_0 rfl ?_
  refine z_iconst (v := (0 : Int32)) dX12_blind_1 rfl ?_
  refine z_putI dX12_blind_2 zp_X12_3 zs_0 rfl rfl rfl ?_
  generalize hhM1 : zup M 0 0 (0 : Int32) = M1
  have h2 := h M1 hhM1.symm
  refine z_iconst (v := (0 : Int32)) dX12_blind_5 rfl ?_
  refine z_istore_n dX12_blind_6 (by decide) (ls' := [.ref 0, .int (0 : Int32), zU, zU, zU]) rfl ?_
  refine z_iconst (v := (0 : Int32)) dX12_blind_7 rfl ?_
  refine z_istore_n dX12_blind_8 (by decide) (ls' := [.ref 0, .int (0 : Int32), .int (0 : Int32), zU, zU]) rfl ?_
  exact h2
theorem t_X12_blind_9 {E : zEv} {D : Nat} {post : Int32 → zM → Prop} {px : String → zM → Prop} {M : zM}   {y1 : Int32} {y2 : Int32} (h : zCi E jX12_women D 0 [.ref 0] M (fun r3 M1 => ((r3 ≤ y2 → post y1 M1) ∧ (¬ r3 ≤ y2 → w_X12_blind_22 E D post px y1 y2 (0 : Int32) (0 : Int32) M1))) px) : w_X12_blind_9 E D post px y1 y2 M := by
  show Z E jX12_blind (D + 1) 0 (zQi post px) 9 0 [.ref 0, .int y1, .int y2, zU, zU] [] M
  refine z_iload_n dX12_blind_9 rfl ?_
  refine z_aload_n dX12_blind_10 rfl ?_
  refine z_callVi (As := []) (st := [.int y2]) dX12_blind_11 zi_X12_102 rfl rfl zs_0 rfl rfl (Nat.le_of_ble_eq_true rfl) (by decide) (fun _ _ hx => hx) h ?_
  intro r3 M1 h2
  refine z_icmp_ge (tgt := 67) dX12_blind_14 (by decide) (fun g4 => ?_) (fun g4 => ?_)
  · have h5 := h2.1 g4
    refine z_iload_n dX12_blind_67 rfl ?_
    exact z_iret dX12_blind_68 rfl rfl (by decide) h5
  · have h6 := h2.2 g4
    refine z_iconst (v := (0 : Int32)) dX12_blind_17 rfl ?_
    refine z_istore_n dX12_blind_18 (by decide) (ls' := [.ref 0, .int y1, .int y2, .int (0 : Int32), zU]) rfl ?_
    refine z_iconst (v := (0 : Int32)) dX12_blind_19 rfl ?_
    refine z_istore dX12_blind_20 (by decide) (ls' := [.ref 0, .int y1, .int y2, .int (0 : Int32), .int (0 : Int32)]) rfl ?_
    exact h6
theorem t_X12_blind_22 {E : zEv} {D : Nat} {post : Int32 → zM → Prop} {px : String → zM → Prop} {M : zM}   {y1 : Int32} {y2 : Int32} {y3 : Int32} {y4 : Int32} (h : zCi E jX12_questions D 0 [.ref 0] M (fun r3 M1 => ((r3 ≤ y4 → ((¬ y3 = 0 → w_X12_blind_59 E D post px y2 (0 : Int32) y1 M1) ∧ (y3 = 0 → w_X12_blind_59 E D post px y2 ((1 : Int32) <<< (y2 &&& 31)) y1 M1))) ∧ (¬ r3 ≤ y4 → zCi E jX12_seenBy D 0 [.ref 0, .int y4, .int y2] M1 (fun r12 M10 => w_X12_blind_22 E D post px y1 y2 (y3 ||| r12) (y4 + (1 : Int32)) M10) px))) px) : w_X12_blind_22 E D post px y1 y2 y3 y4 M := by
  show Z E jX12_blind (D + 1) 0 (zQi post px) 22 0 [.ref 0, .int y1, .int y2, .int y3, .int y4] [] M
  refine z_iload dX12_blind_22 rfl ?_
  refine z_aload_n dX12_blind_24 rfl ?_
  refine z_callVi (As := []) (st := [.int y4]) dX12_blind_25 zi_X12_99 rfl rfl zs_0 rfl rfl (Nat.le_of_ble_eq_true rfl) (by decide) (fun _ _ hx => hx) h ?_
  intro r3 M1 h2
  refine z_icmp_ge (tgt := 47) dX12_blind_28 (by decide) (fun g4 => ?_) (fun g4 => ?_)
  · have h5 := h2.1 g4
    refine z_iload_n dX12_blind_47 rfl ?_
    refine z_iload_n dX12_blind_48 rfl ?_
    refine z_if_ne (tgt := 58) dX12_blind_49 (by decide) (fun g7 => ?_) (fun g7 => ?_)
    · have h8 := h5.1 g7
      refine z_iconst (v := (0 : Int32)) dX12_blind_58 rfl ?_
      refine z_weak [true, false, true, false, false] (ls' := [.ref 0, zU, .int y2, zU, zU]) rfl rfl ?_
      exact h8
    · have h9 := h5.2 g7
      refine z_iconst (v := (1 : Int32)) dX12_blind_52 rfl ?_
      refine z_iload_n dX12_blind_53 rfl ?_
      refine z_ishl dX12_blind_54 ?_
      refine z_goto (tgt := 59) dX12_blind_55 (by decide) ?_
      refine z_weak [true, false, true, false, false] (ls' := [.ref 0, zU, .int y2, zU, zU]) rfl rfl ?_
      exact h9
  · have h6 := h2.2 g4
    refine z_iload_n dX12_blind_31 rfl ?_
    refine z_aload_n dX12_blind_32 rfl ?_
    refine z_iload dX12_blind_33 rfl ?_
    refine z_iload_n dX12_blind_35 rfl ?_
    refine z_callVi (As := [.int y4, .int y2]) (st := [.int y3]) dX12_blind_36 zi_X12_406 rfl rfl zs_0 rfl rfl (Nat.le_of_ble_eq_true rfl) (by decide) (fun _ _ hx => hx) h6 ?_
    intro r12 M10 h11
    refine z_ior dX12_blind_39 ?_
    refine z_istore_n dX12_blind_40 (by decide) (ls' := [.ref 0, .int y1, .int y2, .int (y3 ||| r12), .int y4]) rfl ?_
    refine z_iinc dX12_blind_41 rfl (by decide) (ls' := [.ref 0, .int y1, .int y2, .int (y3 ||| r12), .int (y4 + (1 : Int32))]) rfl ?_
    refine z_goto (tgt := 22) dX12_blind_44 (by decide) ?_
    exact h11
theorem t_X12_blind_59 {E : zEv} {D : Nat} {post : Int32 → zM → Prop} {px : String → zM → Prop} {M : zM}   {y2 : Int32} {s0 : Int32} {s1 : Int32} (h : w_X12_blind_9 E D post px (s1 ||| s0) (y2 + (1 : Int32)) M) : w_X12_blind_59 E D post px y2 s0 s1 M := by
  show Z E jX12_blind (D + 1) 0 (zQi post px) 59 0 [.ref 0, zU, .int y2, zU, zU] [.int s0, .int s1] M
  refine z_ior dX12_blind_59 ?_
  refine z_istore_n dX12_blind_60 (by decide) (ls' := [.ref 0, .int (s1 ||| s0), .int y2, zU, zU]) rfl ?_
  refine z_iinc dX12_blind_61 rfl (by decide) (ls' := [.ref 0, .int (s1 ||| s0), .int (y2 + (1 : Int32)), zU, zU]) rfl ?_
  refine z_goto (tgt := 9) dX12_blind_64 (by decide) ?_
  exact h
theorem e_X12_so {E : zEv} {D : Nat} {post : Int32 → zM → Prop} {px : String → zM → Prop} {M : zM}   (h : ∀ M1 : zM, M1 = zup M 0 0 (0 : Int32) → zCi E jX12_whatIsSo D 0 [.ref 0] M1 (fun r5 M3 => post r5 M3) px) : zCi E jX12_so (D + 1) 0 [.ref 0] M post px := by
  refine z_meth (by decide) (Nat.le_of_ble_eq_true rfl) ?_
  show Z E jX12_so (D + 1) 0 (zQi post px) 0 0 [.ref 0] [] M
  refine z_aload_n dX12_so_0 rfl ?_
  refine z_iconst (v := (0 : Int32)) dX12_so_1 rfl ?_
  refine z_putI dX12_so_2 zp_X12_3 zs_0 rfl rfl rfl ?_
  generalize hhM1 : zup M 0 0 (0 : Int32) = M1
  have h2 := h M1 hhM1.symm
  refine z_aload_n dX12_so_5 rfl ?_
  refine z_callVi (As := []) (st := []) dX12_so_6 zi_X12_319 rfl rfl zs_0 rfl rfl (Nat.le_of_ble_eq_true rfl) (by decide) (fun _ _ hx => hx) h2 ?_
  intro r5 M3 h4
  exact z_iret dX12_so_9 rfl rfl (by decide) h4
def w_X12_noAhead_15 (E : zEv) (D : Nat) (post : Int32 → zM → Prop) (px : String → zM → Prop)  (s0 : Int32) (M : zM) : Prop := Z E jX12_noAhead (D + 1) 0 (zQi post px) 15 0 [zU] [.int s0] M
theorem e_X12_noAhead {E : zEv} {D : Nat} {post : Int32 → zM → Prop} {px : String → zM → Prop} {M : zM} {x1 : Int32}  (h : zCi E jX12_in D 0 [.int x1, .int (0 : Int32), .int (60 : Int32)] M (fun r3 M1 => ((¬ r3 = 0 → w_X12_noAhead_15 E D post px (0 : Int32) M1) ∧ (r3 = 0 → w_X12_noAhead_15 E D post px (1 : Int32) M1))) px) : zCi E jX12_noAhead (D + 1) 0 [.int x1] M post px := by
  refine z_meth (by decide) (Nat.le_of_ble_eq_true rfl) ?_
  show Z E jX12_noAhead (D + 1) 0 (zQi post px) 0 0 [.int x1] [] M
  refine z_iload_n dX12_noAhead_0 rfl ?_
  refine z_iconst (v := (0 : Int32)) dX12_noAhead_1 rfl ?_
  refine z_bipush (v := (60 : Int32)) dX12_noAhead_2 rfl ?_
  refine z_callSi (As := [.int x1, .int (0 : Int32), .int (60 : Int32)]) (st := []) dX12_noAhead_4 zi_X12_95 rfl rfl (Nat.le_of_ble_eq_true rfl) (by decide) (fun _ _ hx => hx) h ?_
  intro r3 M1 h2
  refine z_if_ne (tgt := 14) dX12_noAhead_7 (by decide) (fun g4 => ?_) (fun g4 => ?_)
  · have h5 := h2.1 g4
    refine z_iconst (v := (0 : Int32)) dX12_noAhead_14 rfl ?_
    refine z_weak [false] (ls' := [zU]) rfl rfl ?_
    exact h5
  · have h6 := h2.2 g4
    refine z_iconst (v := (1 : Int32)) dX12_noAhead_10 rfl ?_
    refine z_goto (tgt := 15) dX12_noAhead_11 (by decide) ?_
    refine z_weak [false] (ls' := [zU]) rfl rfl ?_
    exact h6
theorem t_X12_noAhead_15 {E : zEv} {D : Nat} {post : Int32 → zM → Prop} {px : String → zM → Prop} {M : zM}   {s0 : Int32} (h : (s0 = 0 ∨ s0 = 1) ∧ post s0 M) : w_X12_noAhead_15 E D post px s0 M := by
  show Z E jX12_noAhead (D + 1) 0 (zQi post px) 15 0 [zU] [.int s0] M
  obtain ⟨g2, h1⟩ := h
  exact z_iret dX12_noAhead_15 rfl (zbool g2) (by decide) h1
def w_X12_ahead_30 (E : zEv) (D : Nat) (post : Int32 → zM → Prop) (px : String → zM → Prop)   (M : zM) : Prop := Z E jX12_ahead (D + 1) 0 (zQi post px) 30 0 [zU, zU, zU, zU] [] M
theorem e_X12_ahead {E : zEv} {D : Nat} {post : Int32 → zM → Prop} {px : String → zM → Prop} {M : zM} {x1 : Int32} {x2 : Int32}  (h : ∀ M1 : zM, M1 = zup M 0 0 (0 : Int32) → zCi E jX12_noWitness D 0 [.ref 0, .int x1] M1 (fun r5 M3 => zCi E jX12_throwsIf D 0 [.ref 0, .int r5, .int (1 : Int32)] M3 (fun r8 M6 => ((¬ r8 = 0 → w_X12_ahead_30 E D post px  M6) ∧ (r8 = 0 → zCi E jX12_noAhead D 0 [.int x2] M6 (fun r14 M12 => zCi E jX12_throwsIf D 0 [.ref 0, .int r14, .int (2 : Int32)] M12 (fun r17 M15 => ((r17 = 0 → zCv E jX12_keepsAll D 0 [.ref 0] M15 (fun M21 => zCi E jX12_goesOn D 0 [.ref 0, .int x2, .int (1 : Int32)] M21 (fun r25 M23 => zCi E jX12_of D 0 [.ref 0, .int x1, .int (3 : Int32)] M23 (fun r28 M26 => zCv E jX12_bringsBack D 0 [.ref 0] M26 (fun M29 => post r28 M29) px) px) px) px) ∧ (¬ r17 = 0 → w_X12_ahead_30 E D post px  M15))) px) px))) px) px) : zCi E jX12_ahead (D + 1) 0 [.ref 0, .int x1, .int x2] M post px := by
  refine z_meth (by decide) (Nat.le_of_ble_eq_true rfl) ?_
  show Z E jX12_ahead (D + 1) 0 (zQi post px) 0 0 [.ref 0, .int x1, .int x2, zU] [] M
  refine z_aload_n dX12_ahead_0 rfl ?_
  refine z_iconst (v := (0 : Int32)) dX12_ahead_1 rfl ?_
  refine z_putI dX12_ahead_2 zp_X12_3 zs_0 rfl rfl rfl ?_
  generalize hhM1 : zup M 0 0 (0 : Int32) = M1
  have h2 := h M1 hhM1.symm
  refine z_aload_n dX12_ahead_5 rfl ?_
  refine z_aload_n dX12_ahead_6 rfl ?_
  refine z_iload_n dX12_ahead_7 rfl ?_
  refine z_callVi (As := [.int x1]) (st := [.ref 0]) dX12_ahead_8 zi_X12_370 rfl rfl zs_0 rfl rfl (Nat.le_of_ble_eq_true rfl) (by decide) (fun _ _ hx => hx) h2 ?_
  intro r5 M3 h4
  refine z_iconst (v := (1 : Int32)) dX12_ahead_11 rfl ?_
  refine z_callVi (As := [.int r5, .int (1 : Int32)]) (st := []) dX12_ahead_12 zi_X12_282 rfl rfl zs_0 rfl rfl (Nat.le_of_ble_eq_true rfl) (by decide) (fun _ _ hx => hx) h4 ?_
  intro r8 M6 h7
  refine z_if_ne (tgt := 30) dX12_ahead_15 (by decide) (fun g9 => ?_) (fun g9 => ?_)
  · have h10 := h7.1 g9
    refine z_weak [false, false, false, false] (ls' := [zU, zU, zU, zU]) rfl rfl ?_
    exact h10
  · have h11 := h7.2 g9
    refine z_aload_n dX12_ahead_18 rfl ?_
    refine z_iload_n dX12_ahead_19 rfl ?_
    refine z_callSi (As := [.int x2]) (st := [.ref 0]) dX12_ahead_20 zi_X12_503 rfl rfl (Nat.le_of_ble_eq_true rfl) (by decide) (fun _ _ hx => hx) h11 ?_
    intro r14 M12 h13
    refine z_iconst (v := (2 : Int32)) dX12_ahead_23 rfl ?_
    refine z_callVi (As := [.int r14, .int (2 : Int32)]) (st := []) dX12_ahead_24 zi_X12_282 rfl rfl zs_0 rfl rfl (Nat.le_of_ble_eq_true rfl) (by decide) (fun _ _ hx => hx) h13 ?_
    intro r17 M15 h16
    refine z_if_eq (tgt := 32) dX12_ahead_27 (by decide) (fun g18 => ?_) (fun g18 => ?_)
    · have h19 := h16.1 g18
      refine z_aload_n dX12_ahead_32 rfl ?_
      refine z_callVv (As := []) (st := []) dX12_ahead_33 zi_X12_412 rfl rfl zs_0 rfl rfl (Nat.le_of_ble_eq_true rfl) (by decide) (fun _ _ hx => hx) h19 ?_
      intro M21 h22
      refine z_aload_n dX12_ahead_36 rfl ?_
      refine z_iload_n dX12_ahead_37 rfl ?_
      refine z_iconst (v := (1 : Int32)) dX12_ahead_38 rfl ?_
      refine z_callVi (As := [.int x2, .int (1 : Int32)]) (st := []) dX12_ahead_39 zi_X12_354 rfl rfl zs_0 rfl rfl (Nat.le_of_ble_eq_true rfl) (by decide) (fun _ _ hx => hx) h22 ?_
      intro r25 M23 h24
      refine z_pop dX12_ahead_42 rfl ?_
      refine z_aload_n dX12_ahead_43 rfl ?_
      refine z_iload_n dX12_ahead_44 rfl ?_
      refine z_iconst (v := (3 : Int32)) dX12_ahead_45 rfl ?_
      refine z_callVi (As := [.int x1, .int (3 : Int32)]) (st := []) dX12_ahead_46 zi_X12_285 rfl rfl zs_0 rfl rfl (Nat.le_of_ble_eq_true rfl) (by decide) (fun _ _ hx => hx) h24 ?_
      intro r28 M26 h27
      refine z_istore_n dX12_ahead_49 (by decide) (ls' := [.ref 0, .int x1, .int x2, .int r28]) rfl ?_
      refine z_aload_n dX12_ahead_50 rfl ?_
      refine z_callVv (As := []) (st := []) dX12_ahead_51 zi_X12_415 rfl rfl zs_0 rfl rfl (Nat.le_of_ble_eq_true rfl) (by decide) (fun _ _ hx => hx) h27 ?_
      intro M29 h30
      refine z_iload_n dX12_ahead_54 rfl ?_
      exact z_iret dX12_ahead_55 rfl rfl (by decide) h30
    · have h20 := h16.2 g18
      refine z_weak [false, false, false, false] (ls' := [zU, zU, zU, zU]) rfl rfl ?_
      exact h20
theorem t_X12_ahead_30 {E : zEv} {D : Nat} {post : Int32 → zM → Prop} {px : String → zM → Prop} {M : zM}    (h : post (0 : Int32) M) : w_X12_ahead_30 E D post px  M := by
  show Z E jX12_ahead (D + 1) 0 (zQi post px) 30 0 [zU, zU, zU, zU] [] M
  refine z_iconst (v := (0 : Int32)) dX12_ahead_30 rfl ?_
  exact z_iret dX12_ahead_31 rfl rfl (by decide) h
def w_X12_redOnes_4 (E : zEv) (D : Nat) (post : Int32 → zM → Prop) (px : String → zM → Prop)  (y1 : Int32) (y2 : Int32) (M : zM) : Prop := Z E jX12_redOnes (D + 1) 0 (zQi post px) 4 0 [.ref 0, .int y1, .int y2] [] M
def w_X12_redOnes_31 (E : zEv) (D : Nat) (post : Int32 → zM → Prop) (px : String → zM → Prop)  (y2 : Int32) (s0 : Int32) (s1 : Int32) (M : zM) : Prop := Z E jX12_redOnes (D + 1) 0 (zQi post px) 31 0 [.ref 0, zU, .int y2] [.int s0, .int s1] M
theorem e_X12_redOnes {E : zEv} {D : Nat} {post : Int32 → zM → Prop} {px : String → zM → Prop} {M : zM}   (h : w_X12_redOnes_4 E D post px (0 : Int32) (0 : Int32) M) : zCi E jX12_redOnes (D + 1) 0 [.ref 0] M post px := by
  refine z_meth (by decide) (Nat.le_of_ble_eq_true rfl) ?_
  show Z E jX12_redOnes (D + 1) 0 (zQi post px) 0 0 [.ref 0, zU, zU] [] M
  refine z_iconst (v := (0 : Int32)) dX12_redOnes_0 rfl ?_
  refine z_istore_n dX12_redOnes_1 (by decide) (ls' := [.ref 0, .int (0 : Int32), zU]) rfl ?_
  refine z_iconst (v := (0 : Int32)) dX12_redOnes_2 rfl ?_
  refine z_istore_n dX12_redOnes_3 (by decide) (ls' := [.ref 0, .int (0 : Int32), .int (0 : Int32)]) rfl ?_
  exact h
theorem t_X12_redOnes_4 {E : zEv} {D : Nat} {post : Int32 → zM → Prop} {px : String → zM → Prop} {M : zM}   {y1 : Int32} {y2 : Int32} (h : zCi E jX12_witnesses D 0 [.ref 0] M (fun r3 M1 => ((r3 ≤ y2 → post y1 M1) ∧ (¬ r3 ≤ y2 → zCi E jX12_of D 0 [.ref 0, .int y2, .int (3 : Int32)] M1 (fun r9 M7 => ((r9 < (50 : Int32) → w_X12_redOnes_31 E D post px y2 (0 : Int32) y1 M7) ∧ (¬ r9 < (50 : Int32) → w_X12_redOnes_31 E D post px y2 ((1 : Int32) <<< (y2 &&& 31)) y1 M7))) px))) px) : w_X12_redOnes_4 E D post px y1 y2 M := by
  show Z E jX12_redOnes (D + 1) 0 (zQi post px) 4 0 [.ref 0, .int y1, .int y2] [] M
  refine z_iload_n dX12_redOnes_4 rfl ?_
  refine z_aload_n dX12_redOnes_5 rfl ?_
  refine z_callVi (As := []) (st := [.int y2]) dX12_redOnes_6 zi_X12_92 rfl rfl zs_0 rfl rfl (Nat.le_of_ble_eq_true rfl) (by decide) (fun _ _ hx => hx) h ?_
  intro r3 M1 h2
  refine z_icmp_ge (tgt := 39) dX12_redOnes_9 (by decide) (fun g4 => ?_) (fun g4 => ?_)
  · have h5 := h2.1 g4
    refine z_iload_n dX12_redOnes_39 rfl ?_
    exact z_iret dX12_redOnes_40 rfl rfl (by decide) h5
  · have h6 := h2.2 g4
    refine z_iload_n dX12_redOnes_12 rfl ?_
    refine z_aload_n dX12_redOnes_13 rfl ?_
    refine z_iload_n dX12_redOnes_14 rfl ?_
    refine z_iconst (v := (3 : Int32)) dX12_redOnes_15 rfl ?_
    refine z_callVi (As := [.int y2, .int (3 : Int32)]) (st := [.int y1]) dX12_redOnes_16 zi_X12_285 rfl rfl zs_0 rfl rfl (Nat.le_of_ble_eq_true rfl) (by decide) (fun _ _ hx => hx) h6 ?_
    intro r9 M7 h8
    refine z_bipush (v := (50 : Int32)) dX12_redOnes_19 rfl ?_
    refine z_icmp_lt (tgt := 30) dX12_redOnes_21 (by decide) (fun g10 => ?_) (fun g10 => ?_)
    · have h11 := h8.1 g10
      refine z_iconst (v := (0 : Int32)) dX12_redOnes_30 rfl ?_
      refine z_weak [true, false, true] (ls' := [.ref 0, zU, .int y2]) rfl rfl ?_
      exact h11
    · have h12 := h8.2 g10
      refine z_iconst (v := (1 : Int32)) dX12_redOnes_24 rfl ?_
      refine z_iload_n dX12_redOnes_25 rfl ?_
      refine z_ishl dX12_redOnes_26 ?_
      refine z_goto (tgt := 31) dX12_redOnes_27 (by decide) ?_
      refine z_weak [true, false, true] (ls' := [.ref 0, zU, .int y2]) rfl rfl ?_
      exact h12
theorem t_X12_redOnes_31 {E : zEv} {D : Nat} {post : Int32 → zM → Prop} {px : String → zM → Prop} {M : zM}   {y2 : Int32} {s0 : Int32} {s1 : Int32} (h : w_X12_redOnes_4 E D post px (s1 ||| s0) (y2 + (1 : Int32)) M) : w_X12_redOnes_31 E D post px y2 s0 s1 M := by
  show Z E jX12_redOnes (D + 1) 0 (zQi post px) 31 0 [.ref 0, zU, .int y2] [.int s0, .int s1] M
  refine z_ior dX12_redOnes_31 ?_
  refine z_istore_n dX12_redOnes_32 (by decide) (ls' := [.ref 0, .int (s1 ||| s0), .int y2]) rfl ?_
  refine z_iinc dX12_redOnes_33 rfl (by decide) (ls' := [.ref 0, .int (s1 ||| s0), .int (y2 + (1 : Int32))]) rfl ?_
  refine z_goto (tgt := 4) dX12_redOnes_36 (by decide) ?_
  exact h
def w_X12_trial_45 (E : zEv) (D : Nat) (post : Int32 → zM → Prop) (px : String → zM → Prop)  (s0 : Int32) (M : zM) : Prop := Z E jX12_trial (D + 1) 0 (zQi post px) 45 0 [.ref 0, zU, zU, zU] [.int s0] M
theorem e_X12_trial {E : zEv} {D : Nat} {post : Int32 → zM → Prop} {px : String → zM → Prop} {M : zM} {x1 : Int32} {x2 : Int32}  (h : ∀ M1 : zM, M1 = zup M 0 0 (0 : Int32) → zCi E jX12_noAhead D 0 [.int x1] M1 (fun r5 M3 => zCi E jX12_throwsIf D 0 [.ref 0, .int r5, .int (1 : Int32)] M3 (fun r8 M6 => ((r8 = 0 → zCv E jX12_keepsAll D 0 [.ref 0] M6 (fun M12 => zCi E jX12_goesOn D 0 [.ref 0, .int x1, .int (0 : Int32)] M12 (fun r16 M14 => ((x2 = 0 → zCi E jX12_redOnes D 0 [.ref 0] M14 (fun r22 M20 => w_X12_trial_45 E D post px r22 M20) px) ∧ (¬ x2 = 0 → zCi E jX12_shadesOfAll D 0 [.ref 0] M14 (fun r25 M23 => w_X12_trial_45 E D post px r25 M23) px))) px) px) ∧ (¬ r8 = 0 → post (0 : Int32) M6))) px) px) : zCi E jX12_trial (D + 1) 0 [.ref 0, .int x1, .int x2] M post px := by
  refine z_meth (by decide) (Nat.le_of_ble_eq_true rfl) ?_
  show Z E jX12_trial (D + 1) 0 (zQi post px) 0 0 [.ref 0, .int x1, .int x2, zU] [] M
  refine z_aload_n dX12_trial_0 rfl ?_
  refine z_iconst (v := (0 : Int32)) dX12_trial_1 rfl ?_
  refine z_putI dX12_trial_2 zp_X12_3 zs_0 rfl rfl rfl ?_
  generalize hhM1 : zup M 0 0 (0 : Int32) = M1
  have h2 := h M1 hhM1.symm
  refine z_aload_n dX12_trial_5 rfl ?_
  refine z_iload_n dX12_trial_6 rfl ?_
  refine z_callSi (As := [.int x1]) (st := [.ref 0]) dX12_trial_7 zi_X12_503 rfl rfl (Nat.le_of_ble_eq_true rfl) (by decide) (fun _ _ hx => hx) h2 ?_
  intro r5 M3 h4
  refine z_iconst (v := (1 : Int32)) dX12_trial_10 rfl ?_
  refine z_callVi (As := [.int r5, .int (1 : Int32)]) (st := []) dX12_trial_11 zi_X12_282 rfl rfl zs_0 rfl rfl (Nat.le_of_ble_eq_true rfl) (by decide) (fun _ _ hx => hx) h4 ?_
  intro r8 M6 h7
  refine z_if_eq (tgt := 19) dX12_trial_14 (by decide) (fun g9 => ?_) (fun g9 => ?_)
  · have h10 := h7.1 g9
    refine z_aload_n dX12_trial_19 rfl ?_
    refine z_callVv (As := []) (st := []) dX12_trial_20 zi_X12_412 rfl rfl zs_0 rfl rfl (Nat.le_of_ble_eq_true rfl) (by decide) (fun _ _ hx => hx) h10 ?_
    intro M12 h13
    refine z_aload_n dX12_trial_23 rfl ?_
    refine z_iload_n dX12_trial_24 rfl ?_
    refine z_iconst (v := (0 : Int32)) dX12_trial_25 rfl ?_
    refine z_callVi (As := [.int x1, .int (0 : Int32)]) (st := []) dX12_trial_26 zi_X12_354 rfl rfl zs_0 rfl rfl (Nat.le_of_ble_eq_true rfl) (by decide) (fun _ _ hx => hx) h13 ?_
    intro r16 M14 h15
    refine z_pop dX12_trial_29 rfl ?_
    refine z_iload_n dX12_trial_30 rfl ?_
    refine z_if_eq (tgt := 41) dX12_trial_31 (by decide) (fun g17 => ?_) (fun g17 => ?_)
    · have h18 := h15.1 g17
      refine z_aload_n dX12_trial_41 rfl ?_
      refine z_callVi (As := []) (st := []) dX12_trial_42 zi_X12_506 rfl rfl zs_0 rfl rfl (Nat.le_of_ble_eq_true rfl) (by decide) (fun _ _ hx => hx) h18 ?_
      intro r22 M20 h21
      refine z_weak [true, false, false, false] (ls' := [.ref 0, zU, zU, zU]) rfl rfl ?_
      exact h21
    · have h19 := h15.2 g17
      refine z_aload_n dX12_trial_34 rfl ?_
      refine z_callVi (As := []) (st := []) dX12_trial_35 zi_X12_373 rfl rfl zs_0 rfl rfl (Nat.le_of_ble_eq_true rfl) (by decide) (fun _ _ hx => hx) h19 ?_
      intro r25 M23 h24
      refine z_goto (tgt := 45) dX12_trial_38 (by decide) ?_
      refine z_weak [true, false, false, false] (ls' := [.ref 0, zU, zU, zU]) rfl rfl ?_
      exact h24
  · have h11 := h7.2 g9
    refine z_iconst (v := (0 : Int32)) dX12_trial_17 rfl ?_
    exact z_iret dX12_trial_18 rfl rfl (by decide) h11
theorem t_X12_trial_45 {E : zEv} {D : Nat} {post : Int32 → zM → Prop} {px : String → zM → Prop} {M : zM}   {s0 : Int32} (h : zCv E jX12_bringsBack D 0 [.ref 0] M (fun M1 => post s0 M1) px) : w_X12_trial_45 E D post px s0 M := by
  show Z E jX12_trial (D + 1) 0 (zQi post px) 45 0 [.ref 0, zU, zU, zU] [.int s0] M
  refine z_istore_n dX12_trial_45 (by decide) (ls' := [.ref 0, zU, zU, .int s0]) rfl ?_
  refine z_aload_n dX12_trial_46 rfl ?_
  refine z_callVv (As := []) (st := []) dX12_trial_47 zi_X12_415 rfl rfl zs_0 rfl rfl (Nat.le_of_ble_eq_true rfl) (by decide) (fun _ _ hx => hx) h ?_
  intro M1 h2
  refine z_iload_n dX12_trial_50 rfl ?_
  exact z_iret dX12_trial_51 rfl rfl (by decide) h2
def w_X12_span_28 (E : zEv) (D : Nat) (post : Int32 → zM → Prop) (px : String → zM → Prop)  (y1 : Int32) (y2 : Int32) (y3 : Int32) (y4 : Int32) (M : zM) : Prop := Z E jX12_span (D + 1) 0 (zQi post px) 28 0 [.ref 0, .int y1, .int y2, .int y3, .int y4, zU] [] M
def w_X12_span_54 (E : zEv) (D : Nat) (post : Int32 → zM → Prop) (px : String → zM → Prop)  (y1 : Int32) (y2 : Int32) (y3 : Int32) (y4 : Int32) (y5 : Int32) (M : zM) : Prop := Z E jX12_span (D + 1) 0 (zQi post px) 54 0 [.ref 0, .int y1, .int y2, .int y3, .int y4, .int y5] [] M
def w_X12_span_106 (E : zEv) (D : Nat) (post : Int32 → zM → Prop) (px : String → zM → Prop)  (y1 : Int32) (y2 : Int32) (y4 : Int32) (y5 : Int32) (s0 : Int32) (M : zM) : Prop := Z E jX12_span (D + 1) 0 (zQi post px) 106 0 [.ref 0, .int y1, .int y2, zU, .int y4, .int y5] [.int s0] M
theorem e_X12_span {E : zEv} {D : Nat} {post : Int32 → zM → Prop} {px : String → zM → Prop} {M : zM} {x1 : Int32} {x2 : Int32}  (h : ∀ M1 : zM, M1 = zup M 0 0 (0 : Int32) → zCi E jX12_noAhead D 0 [.int x1] M1 (fun r5 M3 => zCi E jX12_throwsIf D 0 [.ref 0, .int r5, .int (1 : Int32)] M3 (fun r8 M6 => ((r8 = 0 → zCv E jX12_keepsAll D 0 [.ref 0] M6 (fun M12 => w_X12_span_28 E D post px x1 x2 (-1 : Int32) (1 : Int32) M12) px) ∧ (¬ r8 = 0 → post (0 : Int32) M6))) px) px) : zCi E jX12_span (D + 1) 0 [.ref 0, .int x1, .int x2] M post px := by
  refine z_meth (by decide) (Nat.le_of_ble_eq_true rfl) ?_
  show Z E jX12_span (D + 1) 0 (zQi post px) 0 0 [.ref 0, .int x1, .int x2, zU, zU, zU] [] M
  refine z_aload_n dX12_span_0 rfl ?_
  refine z_iconst (v := (0 : Int32)) dX12_span_1 rfl ?_
  refine z_putI dX12_span_2 zp_X12_3 zs_0 rfl rfl rfl ?_
  generalize hhM1 : zup M 0 0 (0 : Int32) = M1
  have h2 := h M1 hhM1.symm
  refine z_aload_n dX12_span_5 rfl ?_
  refine z_iload_n dX12_span_6 rfl ?_
  refine z_callSi (As := [.int x1]) (st := [.ref 0]) dX12_span_7 zi_X12_503 rfl rfl (Nat.le_of_ble_eq_true rfl) (by decide) (fun _ _ hx => hx) h2 ?_
  intro r5 M3 h4
  refine z_iconst (v := (1 : Int32)) dX12_span_10 rfl ?_
  refine z_callVi (As := [.int r5, .int (1 : Int32)]) (st := []) dX12_span_11 zi_X12_282 rfl rfl zs_0 rfl rfl (Nat.le_of_ble_eq_true rfl) (by decide) (fun _ _ hx => hx) h4 ?_
  intro r8 M6 h7
  refine z_if_eq (tgt := 19) dX12_span_14 (by decide) (fun g9 => ?_) (fun g9 => ?_)
  · have h10 := h7.1 g9
    refine z_aload_n dX12_span_19 rfl ?_
    refine z_callVv (As := []) (st := []) dX12_span_20 zi_X12_412 rfl rfl zs_0 rfl rfl (Nat.le_of_ble_eq_true rfl) (by decide) (fun _ _ hx => hx) h10 ?_
    intro M12 h13
    refine z_iconst (v := (-1 : Int32)) dX12_span_23 rfl ?_
    refine z_istore_n dX12_span_24 (by decide) (ls' := [.ref 0, .int x1, .int x2, .int (-1 : Int32), zU, zU]) rfl ?_
    refine z_iconst (v := (1 : Int32)) dX12_span_25 rfl ?_
    refine z_istore dX12_span_26 (by decide) (ls' := [.ref 0, .int x1, .int x2, .int (-1 : Int32), .int (1 : Int32), zU]) rfl ?_
    exact h13
  · have h11 := h7.2 g9
    refine z_iconst (v := (0 : Int32)) dX12_span_17 rfl ?_
    exact z_iret dX12_span_18 rfl rfl (by decide) h11
theorem t_X12_span_28 {E : zEv} {D : Nat} {post : Int32 → zM → Prop} {px : String → zM → Prop} {M : zM}   {y1 : Int32} {y2 : Int32} {y3 : Int32} {y4 : Int32} (h : (((6 : Int32) < y4 → post (zmax (0 : Int32) y3) M) ∧ (¬ (6 : Int32) < y4 → ∀ M4 : zM, M4 = zup M 1 ((11 : Int32)).toNatClampNeg y4 → zCi E jX12_goesOn D 0 [.ref 0, .int y1, .int (0 : Int32)] M4 (fun r8 M6 => w_X12_span_54 E D post px y1 y2 y3 y4 (0 : Int32) M6) px))) : w_X12_span_28 E D post px y1 y2 y3 y4 M := by
  show Z E jX12_span (D + 1) 0 (zQi post px) 28 0 [.ref 0, .int y1, .int y2, .int y3, .int y4, zU] [] M
  refine z_iload dX12_span_28 rfl ?_
  refine z_bipush (v := (6 : Int32)) dX12_span_30 rfl ?_
  refine z_icmp_gt (tgt := 123) dX12_span_32 (by decide) (fun g1 => ?_) (fun g1 => ?_)
  · have h2 := h.1 g1
    refine z_iconst (v := (0 : Int32)) dX12_span_123 rfl ?_
    refine z_iload_n dX12_span_124 rfl ?_
    refine z_max dX12_span_125 zm_X12_305 (Nat.le_of_ble_eq_true rfl) (by decide) ?_
    exact z_iret dX12_span_128 rfl rfl (by decide) h2
  · have h3 := h.2 g1
    refine z_aload_n dX12_span_35 rfl ?_
    refine z_getR dX12_span_36 zg_X12_13 zs_0 rfl ?_
    refine z_bipush (v := (11 : Int32)) dX12_span_39 rfl ?_
    refine z_iload dX12_span_41 rfl ?_
    refine z_iast dX12_span_43 zs_1 (by unfold vp_in; decide) ?_
    generalize hhM4 : zup M 1 ((11 : Int32)).toNatClampNeg y4 = M4
    have h5 := h3 M4 hhM4.symm
    refine z_aload_n dX12_span_44 rfl ?_
    refine z_iload_n dX12_span_45 rfl ?_
    refine z_iconst (v := (0 : Int32)) dX12_span_46 rfl ?_
    refine z_callVi (As := [.int y1, .int (0 : Int32)]) (st := []) dX12_span_47 zi_X12_354 rfl rfl zs_0 rfl rfl (Nat.le_of_ble_eq_true rfl) (by decide) (fun _ _ hx => hx) h5 ?_
    intro r8 M6 h7
    refine z_pop dX12_span_50 rfl ?_
    refine z_iconst (v := (0 : Int32)) dX12_span_51 rfl ?_
    refine z_istore dX12_span_52 (by decide) (ls' := [.ref 0, .int y1, .int y2, .int y3, .int y4, .int (0 : Int32)]) rfl ?_
    exact h7
theorem t_X12_span_54 {E : zEv} {D : Nat} {post : Int32 → zM → Prop} {px : String → zM → Prop} {M : zM}   {y1 : Int32} {y2 : Int32} {y3 : Int32} {y4 : Int32} {y5 : Int32} (h : zCi E jX12_witnesses D 0 [.ref 0] M (fun r3 M1 => ((r3 ≤ y5 → zCv E jX12_bringsBack D 0 [.ref 0] M1 (fun M7 => w_X12_span_28 E D post px y1 y2 y3 (y4 + (1 : Int32)) M7) px) ∧ (¬ r3 ≤ y5 → ((0 ≤ y3 → ((y2 = 0 → zCi E jX12_of D 0 [.ref 0, .int y5, .int (3 : Int32)] M1 (fun r17 M15 => w_X12_span_106 E D post px y1 y2 y4 y5 (zmin y3 r17) M15) px) ∧ (¬ y2 = 0 → zCi E jX12_of D 0 [.ref 0, .int y5, .int (3 : Int32)] M1 (fun r20 M18 => w_X12_span_106 E D post px y1 y2 y4 y5 (zmax y3 r20) M18) px))) ∧ (¬ 0 ≤ y3 → zCi E jX12_of D 0 [.ref 0, .int y5, .int (3 : Int32)] M1 (fun r23 M21 => w_X12_span_106 E D post px y1 y2 y4 y5 r23 M21) px))))) px) : w_X12_span_54 E D post px y1 y2 y3 y4 y5 M := by
  show Z E jX12_span (D + 1) 0 (zQi post px) 54 0 [.ref 0, .int y1, .int y2, .int y3, .int y4, .int y5] [] M
  refine z_iload dX12_span_54 rfl ?_
  refine z_aload_n dX12_span_56 rfl ?_
  refine z_callVi (As := []) (st := [.int y5]) dX12_span_57 zi_X12_92 rfl rfl zs_0 rfl rfl (Nat.le_of_ble_eq_true rfl) (by decide) (fun _ _ hx => hx) h ?_
  intro r3 M1 h2
  refine z_icmp_ge (tgt := 113) dX12_span_60 (by decide) (fun g4 => ?_) (fun g4 => ?_)
  · have h5 := h2.1 g4
    refine z_aload_n dX12_span_113 rfl ?_
    refine z_callVv (As := []) (st := []) dX12_span_114 zi_X12_415 rfl rfl zs_0 rfl rfl (Nat.le_of_ble_eq_true rfl) (by decide) (fun _ _ hx => hx) h5 ?_
    intro M7 h8
    refine z_iinc dX12_span_117 rfl (by decide) (ls' := [.ref 0, .int y1, .int y2, .int y3, .int (y4 + (1 : Int32)), .int y5]) rfl ?_
    refine z_goto (tgt := 28) dX12_span_120 (by decide) ?_
    refine z_weak [true, true, true, true, true, false] (ls' := [.ref 0, .int y1, .int y2, .int y3, .int (y4 + (1 : Int32)), zU]) rfl rfl ?_
    exact h8
  · have h6 := h2.2 g4
    refine z_iload_n dX12_span_63 rfl ?_
    refine z_if_ge (tgt := 77) dX12_span_64 (by decide) (fun g9 => ?_) (fun g9 => ?_)
    · have h10 := h6.1 g9
      refine z_iload_n dX12_span_77 rfl ?_
      refine z_if_eq (tgt := 95) dX12_span_78 (by decide) (fun g12 => ?_) (fun g12 => ?_)
      · have h13 := h10.1 g12
        refine z_iload_n dX12_span_95 rfl ?_
        refine z_aload_n dX12_span_96 rfl ?_
        refine z_iload dX12_span_97 rfl ?_
        refine z_iconst (v := (3 : Int32)) dX12_span_99 rfl ?_
        refine z_callVi (As := [.int y5, .int (3 : Int32)]) (st := [.int y3]) dX12_span_100 zi_X12_285 rfl rfl zs_0 rfl rfl (Nat.le_of_ble_eq_true rfl) (by decide) (fun _ _ hx => hx) h13 ?_
        intro r17 M15 h16
        refine z_min dX12_span_103 zm_X12_310 (Nat.le_of_ble_eq_true rfl) (by decide) ?_
        refine z_weak [true, true, true, false, true, true] (ls' := [.ref 0, .int y1, .int y2, zU, .int y4, .int y5]) rfl rfl ?_
        exact h16
      · have h14 := h10.2 g12
        refine z_iload_n dX12_span_81 rfl ?_
        refine z_aload_n dX12_span_82 rfl ?_
        refine z_iload dX12_span_83 rfl ?_
        refine z_iconst (v := (3 : Int32)) dX12_span_85 rfl ?_
        refine z_callVi (As := [.int y5, .int (3 : Int32)]) (st := [.int y3]) dX12_span_86 zi_X12_285 rfl rfl zs_0 rfl rfl (Nat.le_of_ble_eq_true rfl) (by decide) (fun _ _ hx => hx) h14 ?_
        intro r20 M18 h19
        refine z_max dX12_span_89 zm_X12_305 (Nat.le_of_ble_eq_true rfl) (by decide) ?_
        refine z_goto (tgt := 106) dX12_span_92 (by decide) ?_
        refine z_weak [true, true, true, false, true, true] (ls' := [.ref 0, .int y1, .int y2, zU, .int y4, .int y5]) rfl rfl ?_
        exact h19
    · have h11 := h6.2 g9
      refine z_aload_n dX12_span_67 rfl ?_
      refine z_iload dX12_span_68 rfl ?_
      refine z_iconst (v := (3 : Int32)) dX12_span_70 rfl ?_
      refine z_callVi (As := [.int y5, .int (3 : Int32)]) (st := []) dX12_span_71 zi_X12_285 rfl rfl zs_0 rfl rfl (Nat.le_of_ble_eq_true rfl) (by decide) (fun _ _ hx => hx) h11 ?_
      intro r23 M21 h22
      refine z_goto (tgt := 106) dX12_span_74 (by decide) ?_
      refine z_weak [true, true, true, false, true, true] (ls' := [.ref 0, .int y1, .int y2, zU, .int y4, .int y5]) rfl rfl ?_
      exact h22
theorem t_X12_span_106 {E : zEv} {D : Nat} {post : Int32 → zM → Prop} {px : String → zM → Prop} {M : zM}   {y1 : Int32} {y2 : Int32} {y4 : Int32} {y5 : Int32} {s0 : Int32} (h : w_X12_span_54 E D post px y1 y2 s0 y4 (y5 + (1 : Int32)) M) : w_X12_span_106 E D post px y1 y2 y4 y5 s0 M := by
  show Z E jX12_span (D + 1) 0 (zQi post px) 106 0 [.ref 0, .int y1, .int y2, zU, .int y4, .int y5] [.int s0] M
  refine z_istore_n dX12_span_106 (by decide) (ls' := [.ref 0, .int y1, .int y2, .int s0, .int y4, .int y5]) rfl ?_
  refine z_iinc dX12_span_107 rfl (by decide) (ls' := [.ref 0, .int y1, .int y2, .int s0, .int y4, .int (y5 + (1 : Int32))]) rfl ?_
  refine z_goto (tgt := 54) dX12_span_110 (by decide) ?_
  exact h
theorem e_X12_ofLog {E : zEv} {D : Nat} {post : Int32 → zM → Prop} {px : String → zM → Prop} {M : zM} {x1 : Int32} {x2 : Int32}  (h : vp_in (((72 : Int32) + ((5 : Int32) * x1)) + x2) 2070 ∧ post (M.1 1 ((((72 : Int32) + ((5 : Int32) * x1)) + x2)).toNatClampNeg) M) : zCi E jX12_ofLog D 0 [.ref 0, .int x1, .int x2] M post px := by
  refine z_meth (by decide) (Nat.le_of_ble_eq_true rfl) ?_
  show Z E jX12_ofLog D 0 (zQi post px) 0 0 [.ref 0, .int x1, .int x2] [] M
  refine z_aload_n dX12_ofLog_0 rfl ?_
  refine z_getR dX12_ofLog_1 zg_X12_13 zs_0 rfl ?_
  refine z_bipush (v := (72 : Int32)) dX12_ofLog_4 rfl ?_
  refine z_iconst (v := (5 : Int32)) dX12_ofLog_6 rfl ?_
  refine z_iload_n dX12_ofLog_7 rfl ?_
  refine z_imul dX12_ofLog_8 ?_
  refine z_iadd dX12_ofLog_9 ?_
  refine z_iload_n dX12_ofLog_10 rfl ?_
  refine z_iadd dX12_ofLog_11 ?_
  obtain ⟨g2, h1⟩ := h
  refine z_iald dX12_ofLog_12 zs_1 g2 ?_
  exact z_iret dX12_ofLog_13 rfl rfl (by decide) h1
def w_X12_led_36 (E : zEv) (D : Nat) (post : Int32 → zM → Prop) (px : String → zM → Prop)  (y1 : Int32) (y2 : Int32) (y3 : Int32) (y4 : Int32) (y5 : Int32) (M : zM) : Prop := Z E jX12_led (D + 1) 0 (zQi post px) 36 0 [.ref 0, .int y1, .int y2, .int y3, .int y4, .int y5] [] M
def w_X12_led_83 (E : zEv) (D : Nat) (post : Int32 → zM → Prop) (px : String → zM → Prop)  (s0 : Int32) (M : zM) : Prop := Z E jX12_led (D + 1) 0 (zQi post px) 83 0 [zU, zU, zU, zU, zU, zU] [.int s0] M
def w_X12_led_67 (E : zEv) (D : Nat) (post : Int32 → zM → Prop) (px : String → zM → Prop)  (y1 : Int32) (y2 : Int32) (y3 : Int32) (y4 : Int32) (y5 : Int32) (M : zM) : Prop := Z E jX12_led (D + 1) 0 (zQi post px) 67 0 [.ref 0, .int y1, .int y2, .int y3, .int y4, .int y5] [] M
theorem e_X12_led {E : zEv} {D : Nat} {post : Int32 → zM → Prop} {px : String → zM → Prop} {M : zM} {x1 : Int32} {x2 : Int32}  (h : ∀ M1 : zM, M1 = zup M 0 0 (0 : Int32) → zCi E jX12_noWitness D 0 [.ref 0, .int x1] M1 (fun r5 M3 => zCi E jX12_throwsIf D 0 [.ref 0, .int r5, .int (1 : Int32)] M3 (fun r8 M6 => ((r8 = 0 → w_X12_led_36 E D post px x1 x2 (0 : Int32) (-1 : Int32) ((M6.1 1 ((10 : Int32)).toNatClampNeg) - (1 : Int32)) M6) ∧ (¬ r8 = 0 → post (0 : Int32) M6))) px) px) : zCi E jX12_led (D + 1) 0 [.ref 0, .int x1, .int x2] M post px := by
  refine z_meth (by decide) (Nat.le_of_ble_eq_true rfl) ?_
  show Z E jX12_led (D + 1) 0 (zQi post px) 0 0 [.ref 0, .int x1, .int x2, zU, zU, zU] [] M
  refine z_aload_n dX12_led_0 rfl ?_
  refine z_iconst (v := (0 : Int32)) dX12_led_1 rfl ?_
  refine z_putI dX12_led_2 zp_X12_3 zs_0 rfl rfl rfl ?_
  generalize hhM1 : zup M 0 0 (0 : Int32) = M1
  have h2 := h M1 hhM1.symm
  refine z_aload_n dX12_led_5 rfl ?_
  refine z_aload_n dX12_led_6 rfl ?_
  refine z_iload_n dX12_led_7 rfl ?_
  refine z_callVi (As := [.int x1]) (st := [.ref 0]) dX12_led_8 zi_X12_370 rfl rfl zs_0 rfl rfl (Nat.le_of_ble_eq_true rfl) (by decide) (fun _ _ hx => hx) h2 ?_
  intro r5 M3 h4
  refine z_iconst (v := (1 : Int32)) dX12_led_11 rfl ?_
  refine z_callVi (As := [.int r5, .int (1 : Int32)]) (st := []) dX12_led_12 zi_X12_282 rfl rfl zs_0 rfl rfl (Nat.le_of_ble_eq_true rfl) (by decide) (fun _ _ hx => hx) h4 ?_
  intro r8 M6 h7
  refine z_if_eq (tgt := 20) dX12_led_15 (by decide) (fun g9 => ?_) (fun g9 => ?_)
  · have h10 := h7.1 g9
    refine z_iconst (v := (0 : Int32)) dX12_led_20 rfl ?_
    refine z_istore_n dX12_led_21 (by decide) (ls' := [.ref 0, .int x1, .int x2, .int (0 : Int32), zU, zU]) rfl ?_
    refine z_iconst (v := (-1 : Int32)) dX12_led_22 rfl ?_
    refine z_istore dX12_led_23 (by decide) (ls' := [.ref 0, .int x1, .int x2, .int (0 : Int32), .int (-1 : Int32), zU]) rfl ?_
    refine z_aload_n dX12_led_25 rfl ?_
    refine z_getR dX12_led_26 zg_X12_13 zs_0 rfl ?_
    refine z_bipush (v := (10 : Int32)) dX12_led_29 rfl ?_
    refine z_iald dX12_led_31 zs_1 (by unfold vp_in; decide) ?_
    refine z_iconst (v := (1 : Int32)) dX12_led_32 rfl ?_
    refine z_isub dX12_led_33 ?_
    refine z_istore dX12_led_34 (by decide) (ls' := [.ref 0, .int x1, .int x2, .int (0 : Int32), .int (-1 : Int32), .int ((M6.1 1 ((10 : Int32)).toNatClampNeg) - (1 : Int32))]) rfl ?_
    exact h10
  · have h11 := h7.2 g9
    refine z_iconst (v := (0 : Int32)) dX12_led_18 rfl ?_
    exact z_iret dX12_led_19 rfl rfl (by decide) h11
theorem t_X12_led_36 {E : zEv} {D : Nat} {post : Int32 → zM → Prop} {px : String → zM → Prop} {M : zM}   {y1 : Int32} {y2 : Int32} {y3 : Int32} {y4 : Int32} {y5 : Int32} (h : ((y5 < 0 → ((y2 = 0 → w_X12_led_83 E D post px y3 M) ∧ (¬ y2 = 0 → w_X12_led_83 E D post px y4 M))) ∧ (¬ y5 < 0 → zCi E jX12_ofLog D 0 [.ref 0, .int y5, .int (1 : Int32)] M (fun r9 M7 => ((r9 = y1 → zCi E jX12_ofLog D 0 [.ref 0, .int y5, .int (0 : Int32)] M7 (fun r15 M13 => w_X12_led_67 E D post px y1 y2 (y3 + (1 : Int32)) r15 y5 M13) px) ∧ (¬ r9 = y1 → w_X12_led_67 E D post px y1 y2 y3 y4 y5 M7))) px))) : w_X12_led_36 E D post px y1 y2 y3 y4 y5 M := by
  show Z E jX12_led (D + 1) 0 (zQi post px) 36 0 [.ref 0, .int y1, .int y2, .int y3, .int y4, .int y5] [] M
  refine z_iload dX12_led_36 rfl ?_
  refine z_if_lt (tgt := 73) dX12_led_38 (by decide) (fun g1 => ?_) (fun g1 => ?_)
  · have h2 := h.1 g1
    refine z_iload_n dX12_led_73 rfl ?_
    refine z_if_eq (tgt := 82) dX12_led_74 (by decide) (fun g4 => ?_) (fun g4 => ?_)
    · have h5 := h2.1 g4
      refine z_iload_n dX12_led_82 rfl ?_
      refine z_weak [false, false, false, false, false, false] (ls' := [zU, zU, zU, zU, zU, zU]) rfl rfl ?_
      exact h5
    · have h6 := h2.2 g4
      refine z_iload dX12_led_77 rfl ?_
      refine z_goto (tgt := 83) dX12_led_79 (by decide) ?_
      refine z_weak [false, false, false, false, false, false] (ls' := [zU, zU, zU, zU, zU, zU]) rfl rfl ?_
      exact h6
  · have h3 := h.2 g1
    refine z_aload_n dX12_led_41 rfl ?_
    refine z_iload dX12_led_42 rfl ?_
    refine z_iconst (v := (1 : Int32)) dX12_led_44 rfl ?_
    refine z_callVi (As := [.int y5, .int (1 : Int32)]) (st := []) dX12_led_45 zi_X12_509 rfl rfl zs_0 rfl rfl (Nat.le_of_ble_eq_true rfl) (by decide) (fun _ _ hx => hx) h3 ?_
    intro r9 M7 h8
    refine z_iload_n dX12_led_48 rfl ?_
    refine z_icmp_eq (tgt := 55) dX12_led_49 (by decide) (fun g10 => ?_) (fun g10 => ?_)
    · have h11 := h8.1 g10
      refine z_iinc dX12_led_55 rfl (by decide) (ls' := [.ref 0, .int y1, .int y2, .int (y3 + (1 : Int32)), .int y4, .int y5]) rfl ?_
      refine z_aload_n dX12_led_58 rfl ?_
      refine z_iload dX12_led_59 rfl ?_
      refine z_iconst (v := (0 : Int32)) dX12_led_61 rfl ?_
      refine z_callVi (As := [.int y5, .int (0 : Int32)]) (st := []) dX12_led_62 zi_X12_509 rfl rfl zs_0 rfl rfl (Nat.le_of_ble_eq_true rfl) (by decide) (fun _ _ hx => hx) h11 ?_
      intro r15 M13 h14
      refine z_istore dX12_led_65 (by decide) (ls' := [.ref 0, .int y1, .int y2, .int (y3 + (1 : Int32)), .int r15, .int y5]) rfl ?_
      exact h14
    · have h12 := h8.2 g10
      refine z_goto (tgt := 67) dX12_led_52 (by decide) ?_
      exact h12
theorem t_X12_led_83 {E : zEv} {D : Nat} {post : Int32 → zM → Prop} {px : String → zM → Prop} {M : zM}   {s0 : Int32} (h : post s0 M) : w_X12_led_83 E D post px s0 M := by
  show Z E jX12_led (D + 1) 0 (zQi post px) 83 0 [zU, zU, zU, zU, zU, zU] [.int s0] M
  exact z_iret dX12_led_83 rfl rfl (by decide) h
theorem t_X12_led_67 {E : zEv} {D : Nat} {post : Int32 → zM → Prop} {px : String → zM → Prop} {M : zM}   {y1 : Int32} {y2 : Int32} {y3 : Int32} {y4 : Int32} {y5 : Int32} (h : w_X12_led_36 E D post px y1 y2 y3 y4 (y5 + (-1 : Int32)) M) : w_X12_led_67 E D post px y1 y2 y3 y4 y5 M := by
  show Z E jX12_led (D + 1) 0 (zQi post px) 67 0 [.ref 0, .int y1, .int y2, .int y3, .int y4, .int y5] [] M
  refine z_iinc dX12_led_67 rfl (by decide) (ls' := [.ref 0, .int y1, .int y2, .int y3, .int y4, .int (y5 + (-1 : Int32))]) rfl ?_
  refine z_goto (tgt := 36) dX12_led_70 (by decide) ?_
  exact h
def w_X12_log_20 (E : zEv) (D : Nat) (post : Int32 → zM → Prop) (px : String → zM → Prop)  (y1 : Int32) (y2 : Int32) (s0 : Int32) (M : zM) : Prop := Z E jX12_log (D + 1) 0 (zQi post px) 20 0 [.ref 0, .int y1, .int y2] [.int s0, .ref 0] M
def w_X12_log_57 (E : zEv) (D : Nat) (post : Int32 → zM → Prop) (px : String → zM → Prop)  (s0 : Int32) (M : zM) : Prop := Z E jX12_log (D + 1) 0 (zQi post px) 57 0 [zU, zU, zU] [.int s0] M
theorem e_X12_log {E : zEv} {D : Nat} {post : Int32 → zM → Prop} {px : String → zM → Prop} {M : zM} {x1 : Int32} {x2 : Int32}  (h : ∀ M1 : zM, M1 = zup M 0 0 (0 : Int32) → zCi E jX12_in D 0 [.int x2, .int (0 : Int32), .int (4 : Int32)] M1 (fun r5 M3 => ((¬ r5 = 0 → w_X12_log_20 E D post px x1 x2 (0 : Int32) M3) ∧ (r5 = 0 → w_X12_log_20 E D post px x1 x2 (1 : Int32) M3))) px) : zCi E jX12_log (D + 1) 0 [.ref 0, .int x1, .int x2] M post px := by
  refine z_meth (by decide) (Nat.le_of_ble_eq_true rfl) ?_
  show Z E jX12_log (D + 1) 0 (zQi post px) 0 0 [.ref 0, .int x1, .int x2] [] M
  refine z_aload_n dX12_log_0 rfl ?_
  refine z_iconst (v := (0 : Int32)) dX12_log_1 rfl ?_
  refine z_putI dX12_log_2 zp_X12_3 zs_0 rfl rfl rfl ?_
  generalize hhM1 : zup M 0 0 (0 : Int32) = M1
  have h2 := h M1 hhM1.symm
  refine z_aload_n dX12_log_5 rfl ?_
  refine z_iload_n dX12_log_6 rfl ?_
  refine z_iconst (v := (0 : Int32)) dX12_log_7 rfl ?_
  refine z_iconst (v := (4 : Int32)) dX12_log_8 rfl ?_
  refine z_callSi (As := [.int x2, .int (0 : Int32), .int (4 : Int32)]) (st := [.ref 0]) dX12_log_9 zi_X12_95 rfl rfl (Nat.le_of_ble_eq_true rfl) (by decide) (fun _ _ hx => hx) h2 ?_
  intro r5 M3 h4
  refine z_if_ne (tgt := 19) dX12_log_12 (by decide) (fun g6 => ?_) (fun g6 => ?_)
  · have h7 := h4.1 g6
    refine z_iconst (v := (0 : Int32)) dX12_log_19 rfl ?_
    exact h7
  · have h8 := h4.2 g6
    refine z_iconst (v := (1 : Int32)) dX12_log_15 rfl ?_
    refine z_goto (tgt := 20) dX12_log_16 (by decide) ?_
    exact h8
theorem t_X12_log_20 {E : zEv} {D : Nat} {post : Int32 → zM → Prop} {px : String → zM → Prop} {M : zM}   {y1 : Int32} {y2 : Int32} {s0 : Int32} (h : zCi E jX12_throwsIf D 0 [.ref 0, .int s0, .int (1 : Int32)] M (fun r3 M1 => ((r3 = 0 → zCi E jX12_in D 0 [.int y1, .int (0 : Int32), .int ((M1.1 1 ((10 : Int32)).toNatClampNeg) - (1 : Int32))] M1 (fun r9 M7 => ((r9 = 0 → w_X12_log_57 E D post px (-2 : Int32) M7) ∧ (¬ r9 = 0 → zCi E jX12_ofLog D 0 [.ref 0, .int y1, .int y2] M7 (fun r15 M13 => w_X12_log_57 E D post px r15 M13) px))) px) ∧ (¬ r3 = 0 → post (0 : Int32) M1))) px) : w_X12_log_20 E D post px y1 y2 s0 M := by
  show Z E jX12_log (D + 1) 0 (zQi post px) 20 0 [.ref 0, .int y1, .int y2] [.int s0, .ref 0] M
  refine z_iconst (v := (1 : Int32)) dX12_log_20 rfl ?_
  refine z_callVi (As := [.int s0, .int (1 : Int32)]) (st := []) dX12_log_21 zi_X12_282 rfl rfl zs_0 rfl rfl (Nat.le_of_ble_eq_true rfl) (by decide) (fun _ _ hx => hx) h ?_
  intro r3 M1 h2
  refine z_if_eq (tgt := 29) dX12_log_24 (by decide) (fun g4 => ?_) (fun g4 => ?_)
  · have h5 := h2.1 g4
    refine z_iload_n dX12_log_29 rfl ?_
    refine z_iconst (v := (0 : Int32)) dX12_log_30 rfl ?_
    refine z_aload_n dX12_log_31 rfl ?_
    refine z_getR dX12_log_32 zg_X12_13 zs_0 rfl ?_
    refine z_bipush (v := (10 : Int32)) dX12_log_35 rfl ?_
    refine z_iald dX12_log_37 zs_1 (by unfold vp_in; decide) ?_
    refine z_iconst (v := (1 : Int32)) dX12_log_38 rfl ?_
    refine z_isub dX12_log_39 ?_
    refine z_callSi (As := [.int y1, .int (0 : Int32), .int ((M1.1 1 ((10 : Int32)).toNatClampNeg) - (1 : Int32))]) (st := []) dX12_log_40 zi_X12_95 rfl rfl (Nat.le_of_ble_eq_true rfl) (by decide) (fun _ _ hx => hx) h5 ?_
    intro r9 M7 h8
    refine z_if_eq (tgt := 55) dX12_log_43 (by decide) (fun g10 => ?_) (fun g10 => ?_)
    · have h11 := h8.1 g10
      refine z_bipush (v := (-2 : Int32)) dX12_log_55 rfl ?_
      refine z_weak [false, false, false] (ls' := [zU, zU, zU]) rfl rfl ?_
      exact h11
    · have h12 := h8.2 g10
      refine z_aload_n dX12_log_46 rfl ?_
      refine z_iload_n dX12_log_47 rfl ?_
      refine z_iload_n dX12_log_48 rfl ?_
      refine z_callVi (As := [.int y1, .int y2]) (st := []) dX12_log_49 zi_X12_509 rfl rfl zs_0 rfl rfl (Nat.le_of_ble_eq_true rfl) (by decide) (fun _ _ hx => hx) h12 ?_
      intro r15 M13 h14
      refine z_goto (tgt := 57) dX12_log_52 (by decide) ?_
      refine z_weak [false, false, false] (ls' := [zU, zU, zU]) rfl rfl ?_
      exact h14
  · have h6 := h2.2 g4
    refine z_iconst (v := (0 : Int32)) dX12_log_27 rfl ?_
    exact z_iret dX12_log_28 rfl rfl (by decide) h6
theorem t_X12_log_57 {E : zEv} {D : Nat} {post : Int32 → zM → Prop} {px : String → zM → Prop} {M : zM}   {s0 : Int32} (h : post s0 M) : w_X12_log_57 E D post px s0 M := by
  show Z E jX12_log (D + 1) 0 (zQi post px) 57 0 [zU, zU, zU] [.int s0] M
  exact z_iret dX12_log_57 rfl rfl (by decide) h
theorem e_X12_seed {E : zEv} {D : Nat} {post : Int32 → zM → Prop} {px : String → zM → Prop} {M : zM} {x1 : Int32}  (h : ∀ M1 : zM, M1 = zup M 0 0 (0 : Int32) → ∀ M3 : zM, M3 = zup M1 1 ((11 : Int32)).toNatClampNeg x1 → post (M1.1 1 ((11 : Int32)).toNatClampNeg) M3) : zCi E jX12_seed D 0 [.ref 0, .int x1] M post px := by
  refine z_meth (by decide) (Nat.le_of_ble_eq_true rfl) ?_
  show Z E jX12_seed D 0 (zQi post px) 0 0 [.ref 0, .int x1, zU] [] M
  refine z_aload_n dX12_seed_0 rfl ?_
  refine z_iconst (v := (0 : Int32)) dX12_seed_1 rfl ?_
  refine z_putI dX12_seed_2 zp_X12_3 zs_0 rfl rfl rfl ?_
  generalize hhM1 : zup M 0 0 (0 : Int32) = M1
  have h2 := h M1 hhM1.symm
  refine z_aload_n dX12_seed_5 rfl ?_
  refine z_getR dX12_seed_6 zg_X12_13 zs_0 rfl ?_
  refine z_bipush (v := (11 : Int32)) dX12_seed_9 rfl ?_
  refine z_iald dX12_seed_11 zs_1 (by unfold vp_in; decide) ?_
  refine z_istore_n dX12_seed_12 (by decide) (ls' := [.ref 0, .int x1, .int (M1.1 1 ((11 : Int32)).toNatClampNeg)]) rfl ?_
  refine z_aload_n dX12_seed_13 rfl ?_
  refine z_getR dX12_seed_14 zg_X12_13 zs_0 rfl ?_
  refine z_bipush (v := (11 : Int32)) dX12_seed_17 rfl ?_
  refine z_iload_n dX12_seed_19 rfl ?_
  refine z_iast dX12_seed_20 zs_1 (by unfold vp_in; decide) ?_
  generalize hhM3 : zup M1 1 ((11 : Int32)).toNatClampNeg x1 = M3
  have h4 := h2 M3 hhM3.symm
  refine z_iload_n dX12_seed_21 rfl ?_
  exact z_iret dX12_seed_22 rfl rfl (by decide) h4
def w_X12_count_66 (E : zEv) (D : Nat) (post : Int32 → zM → Prop) (px : String → zM → Prop)  (s0 : Int32) (M : zM) : Prop := Z E jX12_count (D + 1) 0 (zQi post px) 66 0 [zU, zU] [.int s0] M
def w_X12_count_105 (E : zEv) (D : Nat) (post : Int32 → zM → Prop) (px : String → zM → Prop)  (s0 : Int32) (M : zM) : Prop := Z E jX12_count (D + 1) 0 (zQi post px) 105 0 [zU, zU] [.int s0] M
theorem e_X12_count {E : zEv} {D : Nat} {post : Int32 → zM → Prop} {px : String → zM → Prop} {M : zM} {x1 : Int32}  (h : ∀ M1 : zM, M1 = zup M 0 0 (0 : Int32) → ((x1 = (5 : Int32) → ((¬ (M1.1 1 ((5 : Int32)).toNatClampNeg) = (1 : Int32) → w_X12_count_66 E D post px (-1 : Int32) M1) ∧ ((M1.1 1 ((5 : Int32)).toNatClampNeg) = (1 : Int32) → w_X12_count_66 E D post px (M1.1 1 ((372 : Int32)).toNatClampNeg) M1))) ∧ (¬ x1 = (5 : Int32) → ((x1 = (6 : Int32) → zCi E jX12_in D 0 [.int x1, .int (0 : Int32), .int (7 : Int32)] M1 (fun r13 M11 => ((r13 = 0 → w_X12_count_105 E D post px (-1 : Int32) M11) ∧ (¬ r13 = 0 → vp_in x1 2070 ∧ w_X12_count_105 E D post px (M11.1 1 (x1).toNatClampNeg) M11))) px) ∧ (¬ x1 = (6 : Int32) → ((x1 = (7 : Int32) → zCi E jX12_in D 0 [.int x1, .int (0 : Int32), .int (7 : Int32)] M1 (fun r24 M22 => ((r24 = 0 → w_X12_count_105 E D post px (-1 : Int32) M22) ∧ (¬ r24 = 0 → vp_in x1 2070 ∧ w_X12_count_105 E D post px (M22.1 1 (x1).toNatClampNeg) M22))) px) ∧ (¬ x1 = (7 : Int32) → ((x1 = (8 : Int32) → zCi E jX12_shadesOfAll D 0 [.ref 0] M1 (fun r35 M33 => post r35 M33) px) ∧ (¬ x1 = (8 : Int32) → ((x1 = (9 : Int32) → post (M1.1 1 ((10 : Int32)).toNatClampNeg) M1) ∧ (¬ x1 = (9 : Int32) → ((x1 = (10 : Int32) → post (M1.1 0 7) M1) ∧ (¬ x1 = (10 : Int32) → zCi E jX12_in D 0 [.int x1, .int (0 : Int32), .int (7 : Int32)] M1 (fun r45 M43 => ((r45 = 0 → w_X12_count_105 E D post px (-1 : Int32) M43) ∧ (¬ r45 = 0 → vp_in x1 2070 ∧ w_X12_count_105 E D post px (M43.1 1 (x1).toNatClampNeg) M43))) px))))))))))))) : zCi E jX12_count (D + 1) 0 [.ref 0, .int x1] M post px := by
  refine z_meth (by decide) (Nat.le_of_ble_eq_true rfl) ?_
  show Z E jX12_count (D + 1) 0 (zQi post px) 0 0 [.ref 0, .int x1] [] M
  refine z_aload_n dX12_count_0 rfl ?_
  refine z_iconst (v := (0 : Int32)) dX12_count_1 rfl ?_
  refine z_putI dX12_count_2 zp_X12_3 zs_0 rfl rfl rfl ?_
  generalize hhM1 : zup M 0 0 (0 : Int32) = M1
  have h2 := h M1 hhM1.symm
  refine z_iload_n dX12_count_5 rfl ?_
  by_cases g3 : x1 = (5 : Int32)
  · have h4 := h2.1 g3
    refine z_tableIn (tgt := 44) dX12_count_6 (by rw [g3]; decide) (by rw [g3]; decide) (by rw [g3]; rfl) (by decide) ?_
    refine z_aload_n dX12_count_44 rfl ?_
    refine z_getR dX12_count_45 zg_X12_13 zs_0 rfl ?_
    refine z_iconst (v := (5 : Int32)) dX12_count_48 rfl ?_
    refine z_iald dX12_count_49 zs_1 (by unfold vp_in; decide) ?_
    refine z_iconst (v := (1 : Int32)) dX12_count_50 rfl ?_
    refine z_icmp_ne (tgt := 65) dX12_count_51 (by decide) (fun g5 => ?_) (fun g5 => ?_)
    · have h6 := h4.1 g5
      refine z_iconst (v := (-1 : Int32)) dX12_count_65 rfl ?_
      refine z_weak [false, false] (ls' := [zU, zU]) rfl rfl ?_
      exact h6
    · have h7 := h4.2 g5
      refine z_aload_n dX12_count_54 rfl ?_
      refine z_getR dX12_count_55 zg_X12_13 zs_0 rfl ?_
      refine z_sipush (v := (372 : Int32)) dX12_count_58 rfl ?_
      refine z_iald dX12_count_61 zs_1 (by unfold vp_in; decide) ?_
      refine z_goto (tgt := 66) dX12_count_62 (by decide) ?_
      refine z_weak [false, false] (ls' := [zU, zU]) rfl rfl ?_
      exact h7
  have h8 := h2.2 g3
  by_cases g9 : x1 = (6 : Int32)
  · have h10 := h8.1 g9
    refine z_tableIn (tgt := 85) dX12_count_6 (by rw [g9]; decide) (by rw [g9]; decide) (by rw [g9]; rfl) (by decide) ?_
    refine z_iload_n dX12_count_85 rfl ?_
    refine z_iconst (v := (0 : Int32)) dX12_count_86 rfl ?_
    refine z_bipush (v := (7 : Int32)) dX12_count_87 rfl ?_
    refine z_callSi (As := [.int x1, .int (0 : Int32), .int (7 : Int32)]) (st := []) dX12_count_89 zi_X12_95 rfl rfl (Nat.le_of_ble_eq_true rfl) (by decide) (fun _ _ hx => hx) h10 ?_
    intro r13 M11 h12
    refine z_if_eq (tgt := 104) dX12_count_92 (by decide) (fun g14 => ?_) (fun g14 => ?_)
    · have h15 := h12.1 g14
      refine z_iconst (v := (-1 : Int32)) dX12_count_104 rfl ?_
      refine z_weak [false, false] (ls' := [zU, zU]) rfl rfl ?_
      exact h15
    · have h16 := h12.2 g14
      refine z_aload_n dX12_count_95 rfl ?_
      refine z_getR dX12_count_96 zg_X12_13 zs_0 rfl ?_
      refine z_iload_n dX12_count_99 rfl ?_
      obtain ⟨g18, h17⟩ := h16
      refine z_iald dX12_count_100 zs_1 g18 ?_
      refine z_goto (tgt := 105) dX12_count_101 (by decide) ?_
      refine z_weak [false, false] (ls' := [zU, zU]) rfl rfl ?_
      exact h17
  have h19 := h8.2 g9
  by_cases g20 : x1 = (7 : Int32)
  · have h21 := h19.1 g20
    refine z_tableIn (tgt := 85) dX12_count_6 (by rw [g20]; decide) (by rw [g20]; decide) (by rw [g20]; rfl) (by decide) ?_
    refine z_iload_n dX12_count_85 rfl ?_
    refine z_iconst (v := (0 : Int32)) dX12_count_86 rfl ?_
    refine z_bipush (v := (7 : Int32)) dX12_count_87 rfl ?_
    refine z_callSi (As := [.int x1, .int (0 : Int32), .int (7 : Int32)]) (st := []) dX12_count_89 zi_X12_95 rfl rfl (Nat.le_of_ble_eq_true rfl) (by decide) (fun _ _ hx => hx) h21 ?_
    intro r24 M22 h23
    refine z_if_eq (tgt := 104) dX12_count_92 (by decide) (fun g25 => ?_) (fun g25 => ?_)
    · have h26 := h23.1 g25
      refine z_iconst (v := (-1 : Int32)) dX12_count_104 rfl ?_
      refine z_weak [false, false] (ls' := [zU, zU]) rfl rfl ?_
      exact h26
    · have h27 := h23.2 g25
      refine z_aload_n dX12_count_95 rfl ?_
      refine z_getR dX12_count_96 zg_X12_13 zs_0 rfl ?_
      refine z_iload_n dX12_count_99 rfl ?_
      obtain ⟨g29, h28⟩ := h27
      refine z_iald dX12_count_100 zs_1 g29 ?_
      refine z_goto (tgt := 105) dX12_count_101 (by decide) ?_
      refine z_weak [false, false] (ls' := [zU, zU]) rfl rfl ?_
      exact h28
  have h30 := h19.2 g20
  by_cases g31 : x1 = (8 : Int32)
  · have h32 := h30.1 g31
    refine z_tableIn (tgt := 67) dX12_count_6 (by rw [g31]; decide) (by rw [g31]; decide) (by rw [g31]; rfl) (by decide) ?_
    refine z_aload_n dX12_count_67 rfl ?_
    refine z_callVi (As := []) (st := []) dX12_count_68 zi_X12_373 rfl rfl zs_0 rfl rfl (Nat.le_of_ble_eq_true rfl) (by decide) (fun _ _ hx => hx) h32 ?_
    intro r35 M33 h34
    exact z_iret dX12_count_71 rfl rfl (by decide) h34
  have h36 := h30.2 g31
  by_cases g37 : x1 = (9 : Int32)
  · have h38 := h36.1 g37
    refine z_tableIn (tgt := 72) dX12_count_6 (by rw [g37]; decide) (by rw [g37]; decide) (by rw [g37]; rfl) (by decide) ?_
    refine z_aload_n dX12_count_72 rfl ?_
    refine z_getR dX12_count_73 zg_X12_13 zs_0 rfl ?_
    refine z_bipush (v := (10 : Int32)) dX12_count_76 rfl ?_
    refine z_iald dX12_count_78 zs_1 (by unfold vp_in; decide) ?_
    exact z_iret dX12_count_79 rfl rfl (by decide) h38
  have h39 := h36.2 g37
  by_cases g40 : x1 = (10 : Int32)
  · have h41 := h39.1 g40
    refine z_tableIn (tgt := 80) dX12_count_6 (by rw [g40]; decide) (by rw [g40]; decide) (by rw [g40]; rfl) (by decide) ?_
    refine z_aload_n dX12_count_80 rfl ?_
    refine z_getI dX12_count_81 zg_X12_75 zs_0 rfl ?_
    exact z_iret dX12_count_84 rfl rfl (by decide) h41
  have h42 := h39.2 g40
  refine z_tableOut (tgt := 85) dX12_count_6 (by have := zne_toInt g3 (by decide : ((5 : Int32)).toInt = 5); have := zne_toInt g9 (by decide : ((6 : Int32)).toInt = 6); have := zne_toInt g20 (by decide : ((7 : Int32)).toInt = 7); have := zne_toInt g31 (by decide : ((8 : Int32)).toInt = 8); have := zne_toInt g37 (by decide : ((9 : Int32)).toInt = 9); have := zne_toInt g40 (by decide : ((10 : Int32)).toInt = 10); omega) (by decide) ?_
  refine z_iload_n dX12_count_85 rfl ?_
  refine z_iconst (v := (0 : Int32)) dX12_count_86 rfl ?_
  refine z_bipush (v := (7 : Int32)) dX12_count_87 rfl ?_
  refine z_callSi (As := [.int x1, .int (0 : Int32), .int (7 : Int32)]) (st := []) dX12_count_89 zi_X12_95 rfl rfl (Nat.le_of_ble_eq_true rfl) (by decide) (fun _ _ hx => hx) h42 ?_
  intro r45 M43 h44
  refine z_if_eq (tgt := 104) dX12_count_92 (by decide) (fun g46 => ?_) (fun g46 => ?_)
  · have h47 := h44.1 g46
    refine z_iconst (v := (-1 : Int32)) dX12_count_104 rfl ?_
    refine z_weak [false, false] (ls' := [zU, zU]) rfl rfl ?_
    exact h47
  · have h48 := h44.2 g46
    refine z_aload_n dX12_count_95 rfl ?_
    refine z_getR dX12_count_96 zg_X12_13 zs_0 rfl ?_
    refine z_iload_n dX12_count_99 rfl ?_
    obtain ⟨g50, h49⟩ := h48
    refine z_iald dX12_count_100 zs_1 g50 ?_
    refine z_goto (tgt := 105) dX12_count_101 (by decide) ?_
    refine z_weak [false, false] (ls' := [zU, zU]) rfl rfl ?_
    exact h49
theorem t_X12_count_66 {E : zEv} {D : Nat} {post : Int32 → zM → Prop} {px : String → zM → Prop} {M : zM}   {s0 : Int32} (h : post s0 M) : w_X12_count_66 E D post px s0 M := by
  show Z E jX12_count (D + 1) 0 (zQi post px) 66 0 [zU, zU] [.int s0] M
  exact z_iret dX12_count_66 rfl rfl (by decide) h
theorem t_X12_count_105 {E : zEv} {D : Nat} {post : Int32 → zM → Prop} {px : String → zM → Prop} {M : zM}   {s0 : Int32} (h : post s0 M) : w_X12_count_105 E D post px s0 M := by
  show Z E jX12_count (D + 1) 0 (zQi post px) 105 0 [zU, zU] [.int s0] M
  exact z_iret dX12_count_105 rfl rfl (by decide) h
