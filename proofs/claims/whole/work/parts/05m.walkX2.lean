theorem e_X2_search {E : zEv} {D : Nat} {post : zM → Prop} {px : String → zM → Prop} {M : zM}   (h : zCv E jJ7_fill_53178 D 0 [.ref 58, .int (-1 : Int32)] M (fun M1 => ∀ M3 : zM, M3 = zup M1 56 2 (-1 : Int32) → zCv E jX2_extend D 0 [.ref 56, .ref 61, .int (0 : Int32), .int (0 : Int32)] M3 (fun M5 => post M5) px) px) : zCv E jX2_search (D + 1) 0 [.ref 56, .ref 61] M post px := by
  refine z_meth (by decide) (Nat.le_of_ble_eq_true rfl) ?_
  show Z E jX2_search (D + 1) 0 (zQv post px) 0 0 [.ref 56, .ref 61] [] M
  refine z_aload_n dX2_search_0 rfl ?_
  refine z_getR dX2_search_1 zg_X2_15 zs_56 rfl ?_
  refine z_iconst (v := (-1 : Int32)) dX2_search_4 rfl ?_
  refine z_callSv (As := [.ref 58, .int (-1 : Int32)]) (st := []) dX2_search_5 zi_X2_22 rfl rfl (Nat.le_of_ble_eq_true rfl) (by decide) (fun _ _ hx => hx) h ?_
  intro M1 h2
  refine z_aload_n dX2_search_8 rfl ?_
  refine z_iconst (v := (-1 : Int32)) dX2_search_9 rfl ?_
  refine z_putI dX2_search_10 zp_X2_18 zs_56 rfl rfl rfl ?_
  generalize hhM3 : zup M1 56 2 (-1 : Int32) = M3
  have h4 := h2 M3 hhM3.symm
  refine z_aload_n dX2_search_13 rfl ?_
  refine z_aload_n dX2_search_14 rfl ?_
  refine z_iconst (v := (0 : Int32)) dX2_search_15 rfl ?_
  refine z_iconst (v := (0 : Int32)) dX2_search_16 rfl ?_
  refine z_callVv (As := [.ref 61, .int (0 : Int32), .int (0 : Int32)]) (st := []) dX2_search_17 zi_X2_28 rfl rfl zs_56 rfl rfl (Nat.le_of_ble_eq_true rfl) (by decide) (fun _ _ hx => hx) h4 ?_
  intro M5 h6
  exact z_vret dX2_search_20 rfl (by decide) h6
def w_X2_extend_61 (E : zEv) (D : Nat) (post : zM → Prop) (px : String → zM → Prop)  (y2 : Int32) (y3 : Int32) (y4 : Int32) (M : zM) : Prop := Z E jX2_extend (D + 1) 0 (zQv post px) 61 0 [.ref 56, .ref 61, .int y2, .int y3, .int y4] [] M
def w_X2_extend_35 (E : zEv) (D : Nat) (post : zM → Prop) (px : String → zM → Prop)   (M : zM) : Prop := Z E jX2_extend (D + 1) 0 (zQv post px) 35 0 [zU, zU, zU, zU, zU] [] M
def w_X2_extend_129 (E : zEv) (D : Nat) (post : zM → Prop) (px : String → zM → Prop)  (y2 : Int32) (y3 : Int32) (y4 : Int32) (M : zM) : Prop := Z E jX2_extend (D + 1) 0 (zQv post px) 129 0 [.ref 56, .ref 61, .int y2, .int y3, .int y4] [] M
theorem e_X2_extend {E : zEv} {D : Nat} {post : zM → Prop} {px : String → zM → Prop} {M : zM} {x2 : Int32} {x3 : Int32}  (h : ((x2 < (M.1 61 8) → zCv E jX2_extend D 0 [.ref 56, .ref 61, .int (x2 + (1 : Int32)), .int x3] M (fun M4 => vp_in x2 4 ∧ (((M4.1 58 (x2).toNatClampNeg) = (-1 : Int32) → w_X2_extend_61 E D post px x2 x3 (x2 + (1 : Int32)) M4) ∧ (¬ (M4.1 58 (x2).toNatClampNeg) = (-1 : Int32) → post M4))) px) ∧ (¬ x2 < (M.1 61 8) → ((x3 ≤ (M.1 56 2) → w_X2_extend_35 E D post px  M) ∧ (¬ x3 ≤ (M.1 56 2) → ∀ M14 : zM, M14 = zup M 56 2 x3 → ∀ M16 : zM, M16 = zrow M14 57 (va_cpy (M14.1 58) (M14.1 57) ((0 : Int32)).toNatClampNeg ((0 : Int32)).toNatClampNeg ((4 : Int32)).toNatClampNeg) → w_X2_extend_35 E D post px  M16))))) : zCv E jX2_extend (D + 1) 0 [.ref 56, .ref 61, .int x2, .int x3] M post px := by
  refine z_meth (by decide) (Nat.le_of_ble_eq_true rfl) ?_
  show Z E jX2_extend (D + 1) 0 (zQv post px) 0 0 [.ref 56, .ref 61, .int x2, .int x3, zU] [] M
  refine z_iload_n dX2_extend_0 rfl ?_
  refine z_aload_n dX2_extend_1 rfl ?_
  refine z_getI dX2_extend_2 zg_X2_32 zs_61 rfl ?_
  refine z_icmp_lt (tgt := 36) dX2_extend_5 (by decide) (fun g1 => ?_) (fun g1 => ?_)
  · have h2 := h.1 g1
    refine z_aload_n dX2_extend_36 rfl ?_
    refine z_aload_n dX2_extend_37 rfl ?_
    refine z_iload_n dX2_extend_38 rfl ?_
    refine z_iconst (v := (1 : Int32)) dX2_extend_39 rfl ?_
    refine z_iadd dX2_extend_40 ?_
    refine z_iload_n dX2_extend_41 rfl ?_
    refine z_callVv (As := [.ref 61, .int (x2 + (1 : Int32)), .int x3]) (st := []) dX2_extend_42 zi_X2_28 rfl rfl zs_56 rfl rfl (Nat.le_of_ble_eq_true rfl) (by decide) (fun _ _ hx => hx) h2 ?_
    intro M4 h5
    refine z_aload_n dX2_extend_45 rfl ?_
    refine z_getR dX2_extend_46 zg_X2_15 zs_56 rfl ?_
    refine z_iload_n dX2_extend_49 rfl ?_
    obtain ⟨g7, h6⟩ := h5
    refine z_iald dX2_extend_50 zs_58 g7 ?_
    refine z_iconst (v := (-1 : Int32)) dX2_extend_51 rfl ?_
    refine z_icmp_eq (tgt := 56) dX2_extend_52 (by decide) (fun g8 => ?_) (fun g8 => ?_)
    · have h9 := h6.1 g8
      refine z_iload_n dX2_extend_56 rfl ?_
      refine z_iconst (v := (1 : Int32)) dX2_extend_57 rfl ?_
      refine z_iadd dX2_extend_58 ?_
      refine z_istore dX2_extend_59 (by decide) (ls' := [.ref 56, .ref 61, .int x2, .int x3, .int (x2 + (1 : Int32))]) rfl ?_
      exact h9
    · have h10 := h6.2 g8
      exact z_vret dX2_extend_55 rfl (by decide) h10
  · have h3 := h.2 g1
    refine z_iload_n dX2_extend_8 rfl ?_
    refine z_aload_n dX2_extend_9 rfl ?_
    refine z_getI dX2_extend_10 zg_X2_18 zs_56 rfl ?_
    refine z_icmp_le (tgt := 35) dX2_extend_13 (by decide) (fun g11 => ?_) (fun g11 => ?_)
    · have h12 := h3.1 g11
      refine z_weak [false, false, false, false, false] (ls' := [zU, zU, zU, zU, zU]) rfl rfl ?_
      exact h12
    · have h13 := h3.2 g11
      refine z_aload_n dX2_extend_16 rfl ?_
      refine z_iload_n dX2_extend_17 rfl ?_
      refine z_putI dX2_extend_18 zp_X2_18 zs_56 rfl rfl rfl ?_
      generalize hhM14 : zup M 56 2 x3 = M14
      have h15 := h13 M14 hhM14.symm
      refine z_aload_n dX2_extend_21 rfl ?_
      refine z_getR dX2_extend_22 zg_X2_15 zs_56 rfl ?_
      refine z_iconst (v := (0 : Int32)) dX2_extend_25 rfl ?_
      refine z_aload_n dX2_extend_26 rfl ?_
      refine z_getR dX2_extend_27 zg_X2_9 zs_56 rfl ?_
      refine z_iconst (v := (0 : Int32)) dX2_extend_30 rfl ?_
      refine z_iconst (v := (4 : Int32)) dX2_extend_31 rfl ?_
      refine z_copy dX2_extend_32 zc_X2_37 zs_58 zs_57 (by decide) (by decide) (by decide) (by decide) (by decide) (Nat.le_of_ble_eq_true rfl) ?_
      generalize hhM16 : zrow M14 57 (va_cpy (M14.1 58) (M14.1 57) ((0 : Int32)).toNatClampNeg ((0 : Int32)).toNatClampNeg ((4 : Int32)).toNatClampNeg) = M16
      have h17 := h15 M16 hhM16.symm
      refine z_weak [false, false, false, false, false] (ls' := [zU, zU, zU, zU, zU]) rfl rfl ?_
      exact h17
theorem t_X2_extend_61 {E : zEv} {D : Nat} {post : zM → Prop} {px : String → zM → Prop} {M : zM}   {y2 : Int32} {y3 : Int32} {y4 : Int32} (h : (((M.1 61 8) ≤ y4 → post M) ∧ (¬ (M.1 61 8) ≤ y4 → vp_in y4 4 ∧ ((¬ (M.1 58 (y4).toNatClampNeg) = (-1 : Int32) → w_X2_extend_129 E D post px y2 y3 y4 M) ∧ ((M.1 58 (y4).toNatClampNeg) = (-1 : Int32) → vp_in y2 4 ∧ ∀ M11 : zM, M11 = zup M 58 (y2).toNatClampNeg y4 → vp_in y4 4 ∧ ∀ M15 : zM, M15 = zup M11 58 (y4).toNatClampNeg y2 → zCi E jX2_unlike D 0 [.ref 61, .int y2, .int y4] M15 (fun r19 M17 => zCv E jX2_extend D 0 [.ref 56, .ref 61, .int (y2 + (1 : Int32)), .int (y3 + r19)] M17 (fun M20 => vp_in y2 4 ∧ ∀ M24 : zM, M24 = zup M20 58 (y2).toNatClampNeg (-1 : Int32) → vp_in y4 4 ∧ ∀ M28 : zM, M28 = zup M24 58 (y4).toNatClampNeg (-1 : Int32) → w_X2_extend_129 E D post px y2 y3 y4 M28) px) px))))) : w_X2_extend_61 E D post px y2 y3 y4 M := by
  show Z E jX2_extend (D + 1) 0 (zQv post px) 61 0 [.ref 56, .ref 61, .int y2, .int y3, .int y4] [] M
  refine z_iload dX2_extend_61 rfl ?_
  refine z_aload_n dX2_extend_63 rfl ?_
  refine z_getI dX2_extend_64 zg_X2_32 zs_61 rfl ?_
  refine z_icmp_ge (tgt := 135) dX2_extend_67 (by decide) (fun g1 => ?_) (fun g1 => ?_)
  · have h2 := h.1 g1
    exact z_vret dX2_extend_135 rfl (by decide) h2
  · have h3 := h.2 g1
    refine z_aload_n dX2_extend_70 rfl ?_
    refine z_getR dX2_extend_71 zg_X2_15 zs_56 rfl ?_
    refine z_iload dX2_extend_74 rfl ?_
    obtain ⟨g5, h4⟩ := h3
    refine z_iald dX2_extend_76 zs_58 g5 ?_
    refine z_iconst (v := (-1 : Int32)) dX2_extend_77 rfl ?_
    refine z_icmp_ne (tgt := 129) dX2_extend_78 (by decide) (fun g6 => ?_) (fun g6 => ?_)
    · have h7 := h4.1 g6
      exact h7
    · have h8 := h4.2 g6
      refine z_aload_n dX2_extend_81 rfl ?_
      refine z_getR dX2_extend_82 zg_X2_15 zs_56 rfl ?_
      refine z_iload_n dX2_extend_85 rfl ?_
      refine z_iload dX2_extend_86 rfl ?_
      obtain ⟨g10, h9⟩ := h8
      refine z_iast dX2_extend_88 zs_58 g10 ?_
      generalize hhM11 : zup M 58 (y2).toNatClampNeg y4 = M11
      have h12 := h9 M11 hhM11.symm
      refine z_aload_n dX2_extend_89 rfl ?_
      refine z_getR dX2_extend_90 zg_X2_15 zs_56 rfl ?_
      refine z_iload dX2_extend_93 rfl ?_
      refine z_iload_n dX2_extend_95 rfl ?_
      obtain ⟨g14, h13⟩ := h12
      refine z_iast dX2_extend_96 zs_58 g14 ?_
      generalize hhM15 : zup M11 58 (y4).toNatClampNeg y2 = M15
      have h16 := h13 M15 hhM15.symm
      refine z_aload_n dX2_extend_97 rfl ?_
      refine z_aload_n dX2_extend_98 rfl ?_
      refine z_iload_n dX2_extend_99 rfl ?_
      refine z_iconst (v := (1 : Int32)) dX2_extend_100 rfl ?_
      refine z_iadd dX2_extend_101 ?_
      refine z_iload_n dX2_extend_102 rfl ?_
      refine z_aload_n dX2_extend_103 rfl ?_
      refine z_iload_n dX2_extend_104 rfl ?_
      refine z_iload dX2_extend_105 rfl ?_
      refine z_callSi (As := [.ref 61, .int y2, .int y4]) (st := [.int y3, .int (y2 + (1 : Int32)), .ref 61, .ref 56]) dX2_extend_107 zi_X2_43 rfl rfl (Nat.le_of_ble_eq_true rfl) (by decide) (fun _ _ hx => hx) h16 ?_
      intro r19 M17 h18
      refine z_iadd dX2_extend_110 ?_
      refine z_callVv (As := [.ref 61, .int (y2 + (1 : Int32)), .int (y3 + r19)]) (st := []) dX2_extend_111 zi_X2_28 rfl rfl zs_56 rfl rfl (Nat.le_of_ble_eq_true rfl) (by decide) (fun _ _ hx => hx) h18 ?_
      intro M20 h21
      refine z_aload_n dX2_extend_114 rfl ?_
      refine z_getR dX2_extend_115 zg_X2_15 zs_56 rfl ?_
      refine z_iload_n dX2_extend_118 rfl ?_
      refine z_iconst (v := (-1 : Int32)) dX2_extend_119 rfl ?_
      obtain ⟨g23, h22⟩ := h21
      refine z_iast dX2_extend_120 zs_58 g23 ?_
      generalize hhM24 : zup M20 58 (y2).toNatClampNeg (-1 : Int32) = M24
      have h25 := h22 M24 hhM24.symm
      refine z_aload_n dX2_extend_121 rfl ?_
      refine z_getR dX2_extend_122 zg_X2_15 zs_56 rfl ?_
      refine z_iload dX2_extend_125 rfl ?_
      refine z_iconst (v := (-1 : Int32)) dX2_extend_127 rfl ?_
      obtain ⟨g27, h26⟩ := h25
      refine z_iast dX2_extend_128 zs_58 g27 ?_
      generalize hhM28 : zup M24 58 (y4).toNatClampNeg (-1 : Int32) = M28
      have h29 := h26 M28 hhM28.symm
      exact h29
theorem t_X2_extend_35 {E : zEv} {D : Nat} {post : zM → Prop} {px : String → zM → Prop} {M : zM}    (h : post M) : w_X2_extend_35 E D post px  M := by
  show Z E jX2_extend (D + 1) 0 (zQv post px) 35 0 [zU, zU, zU, zU, zU] [] M
  exact z_vret dX2_extend_35 rfl (by decide) h
theorem t_X2_extend_129 {E : zEv} {D : Nat} {post : zM → Prop} {px : String → zM → Prop} {M : zM}   {y2 : Int32} {y3 : Int32} {y4 : Int32} (h : w_X2_extend_61 E D post px y2 y3 (y4 + (1 : Int32)) M) : w_X2_extend_129 E D post px y2 y3 y4 M := by
  show Z E jX2_extend (D + 1) 0 (zQv post px) 129 0 [.ref 56, .ref 61, .int y2, .int y3, .int y4] [] M
  refine z_iinc dX2_extend_129 rfl (by decide) (ls' := [.ref 56, .ref 61, .int y2, .int y3, .int (y4 + (1 : Int32))]) rfl ?_
  refine z_goto (tgt := 61) dX2_extend_132 (by decide) ?_
  exact h
def w_X2_unlike_5 (E : zEv) (D : Nat) (post : Int32 → zM → Prop) (px : String → zM → Prop)  (y1 : Int32) (y2 : Int32) (y3 : Int32) (y4 : Int32) (M : zM) : Prop := Z E jX2_unlike (D + 1) 0 (zQi post px) 5 0 [.ref 61, .int y1, .int y2, .int y3, .int y4, zU] [] M
def w_X2_unlike_57 (E : zEv) (D : Nat) (post : Int32 → zM → Prop) (px : String → zM → Prop)  (y1 : Int32) (y2 : Int32) (y3 : Int32) (y4 : Int32) (M : zM) : Prop := Z E jX2_unlike (D + 1) 0 (zQi post px) 57 0 [.ref 61, .int y1, .int y2, .int y3, .int y4, zU] [] M
theorem e_X2_unlike {E : zEv} {D : Nat} {post : Int32 → zM → Prop} {px : String → zM → Prop} {M : zM} {x2 : Int32} {x3 : Int32}  (h : w_X2_unlike_5 E D post px x2 x3 (0 : Int32) (0 : Int32) M) : zCi E jX2_unlike (D + 1) 0 [.ref 61, .int x2, .int x3] M post px := by
  refine z_meth (by decide) (Nat.le_of_ble_eq_true rfl) ?_
  show Z E jX2_unlike (D + 1) 0 (zQi post px) 0 0 [.ref 61, .int x2, .int x3, zU, zU, zU] [] M
  refine z_iconst (v := (0 : Int32)) dX2_unlike_0 rfl ?_
  refine z_istore_n dX2_unlike_1 (by decide) (ls' := [.ref 61, .int x2, .int x3, .int (0 : Int32), zU, zU]) rfl ?_
  refine z_iconst (v := (0 : Int32)) dX2_unlike_2 rfl ?_
  refine z_istore dX2_unlike_3 (by decide) (ls' := [.ref 61, .int x2, .int x3, .int (0 : Int32), .int (0 : Int32), zU]) rfl ?_
  exact h
theorem t_X2_unlike_5 {E : zEv} {D : Nat} {post : Int32 → zM → Prop} {px : String → zM → Prop} {M : zM}   {y1 : Int32} {y2 : Int32} {y3 : Int32} {y4 : Int32} (h : (((M.1 62 6) ≤ y4 → post y3 M) ∧ (¬ (M.1 62 6) ≤ y4 → vp_in y4 5 ∧ vp_in y1 4 ∧ zCi E jX11_readBy D 0 [.int (M.1 74 (y1).toNatClampNeg), .int (M.1 66 (y4).toNatClampNeg)] M (fun r10 M8 => vp_in y2 4 ∧ zCi E jX11_readBy D 0 [.int (M8.1 74 (y2).toNatClampNeg), .int (M.1 66 (y4).toNatClampNeg)] M8 (fun r15 M13 => ((r10 = r15 → w_X2_unlike_57 E D post px y1 y2 y3 y4 M13) ∧ (¬ r10 = r15 → w_X2_unlike_57 E D post px y1 y2 (y3 + (1 : Int32)) y4 M13))) (fun _ _ => False)) (fun _ _ => False)))) : w_X2_unlike_5 E D post px y1 y2 y3 y4 M := by
  show Z E jX2_unlike (D + 1) 0 (zQi post px) 5 0 [.ref 61, .int y1, .int y2, .int y3, .int y4, zU] [] M
  refine z_iload dX2_unlike_5 rfl ?_
  refine z_aload_n dX2_unlike_7 rfl ?_
  refine z_getR dX2_unlike_8 zg_X2_47 zs_61 rfl ?_
  refine z_getI dX2_unlike_11 zg_X2_51 zs_62 rfl ?_
  refine z_icmp_ge (tgt := 63) dX2_unlike_14 (by decide) (fun g1 => ?_) (fun g1 => ?_)
  · have h2 := h.1 g1
    refine z_iload_n dX2_unlike_63 rfl ?_
    exact z_iret dX2_unlike_64 rfl rfl (by decide) h2
  · have h3 := h.2 g1
    refine z_aload_n dX2_unlike_17 rfl ?_
    refine z_getR dX2_unlike_18 zg_X2_47 zs_61 rfl ?_
    refine z_getR dX2_unlike_21 zg_X2_56 zs_62 rfl ?_
    refine z_iload dX2_unlike_24 rfl ?_
    obtain ⟨g5, h4⟩ := h3
    refine z_iald dX2_unlike_26 zs_66 g5 ?_
    refine z_istore dX2_unlike_27 (by decide) (ls' := [.ref 61, .int y1, .int y2, .int y3, .int y4, .int (M.1 66 (y4).toNatClampNeg)]) rfl ?_
    refine z_aload_n dX2_unlike_29 rfl ?_
    refine z_getR dX2_unlike_30 zg_X2_59 zs_61 rfl ?_
    refine z_iload_n dX2_unlike_33 rfl ?_
    obtain ⟨g7, h6⟩ := h4
    refine z_iald dX2_unlike_34 zs_74 g7 ?_
    refine z_iload dX2_unlike_35 rfl ?_
    refine z_callNi (As := [.int (M.1 74 (y1).toNatClampNeg), .int (M.1 66 (y4).toNatClampNeg)]) (st := []) dX2_unlike_37 zn_X2_62 rfl rfl (Nat.le_of_ble_eq_true rfl) (by decide) h6 ?_
    intro r10 M8 h9
    refine z_aload_n dX2_unlike_40 rfl ?_
    refine z_getR dX2_unlike_41 zg_X2_59 zs_61 rfl ?_
    refine z_iload_n dX2_unlike_44 rfl ?_
    obtain ⟨g12, h11⟩ := h9
    refine z_iald dX2_unlike_45 zs_74 g12 ?_
    refine z_iload dX2_unlike_46 rfl ?_
    refine z_callNi (As := [.int (M8.1 74 (y2).toNatClampNeg), .int (M.1 66 (y4).toNatClampNeg)]) (st := [.int r10]) dX2_unlike_48 zn_X2_62 rfl rfl (Nat.le_of_ble_eq_true rfl) (by decide) h11 ?_
    intro r15 M13 h14
    refine z_icmp_eq (tgt := 57) dX2_unlike_51 (by decide) (fun g16 => ?_) (fun g16 => ?_)
    · have h17 := h14.1 g16
      refine z_weak [true, true, true, true, true, false] (ls' := [.ref 61, .int y1, .int y2, .int y3, .int y4, zU]) rfl rfl ?_
      exact h17
    · have h18 := h14.2 g16
      refine z_iinc dX2_unlike_54 rfl (by decide) (ls' := [.ref 61, .int y1, .int y2, .int (y3 + (1 : Int32)), .int y4, .int (M.1 66 (y4).toNatClampNeg)]) rfl ?_
      refine z_weak [true, true, true, true, true, false] (ls' := [.ref 61, .int y1, .int y2, .int (y3 + (1 : Int32)), .int y4, zU]) rfl rfl ?_
      exact h18
theorem t_X2_unlike_57 {E : zEv} {D : Nat} {post : Int32 → zM → Prop} {px : String → zM → Prop} {M : zM}   {y1 : Int32} {y2 : Int32} {y3 : Int32} {y4 : Int32} (h : w_X2_unlike_5 E D post px y1 y2 y3 (y4 + (1 : Int32)) M) : w_X2_unlike_57 E D post px y1 y2 y3 y4 M := by
  show Z E jX2_unlike (D + 1) 0 (zQi post px) 57 0 [.ref 61, .int y1, .int y2, .int y3, .int y4, zU] [] M
  refine z_iinc dX2_unlike_57 rfl (by decide) (ls' := [.ref 61, .int y1, .int y2, .int y3, .int (y4 + (1 : Int32)), zU]) rfl ?_
  refine z_goto (tgt := 5) dX2_unlike_60 (by decide) ?_
  exact h
