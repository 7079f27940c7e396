def w_X10_weigh_9 (E : zEv) (D : Nat) (post : zM → Prop) (px : String → zM → Prop)  (y3 : Int32) (y4 : Int32) (y5 : Int32) (M : zM) : Prop := Z E jX10_weigh (D + 1) 0 (zQv post px) 9 0 [.ref 48, .ref 43, .ref 61, .int y3, .int y4, .int y5, zU] [] M
def w_X10_weigh_129 (E : zEv) (D : Nat) (post : zM → Prop) (px : String → zM → Prop)  (y3 : Int32) (y4 : Int32) (y5 : Int32) (M : zM) : Prop := Z E jX10_weigh (D + 1) 0 (zQv post px) 129 0 [.ref 48, .ref 43, .ref 61, .int y3, .int y4, .int y5, zU] [] M
theorem e_X10_weigh {E : zEv} {D : Nat} {post : zM → Prop} {px : String → zM → Prop} {M : zM} {x3 : Int32}  (h : w_X10_weigh_9 E D post px x3 (x3 * (64 : Int32)) (0 : Int32) M) : zCv E jX10_weigh (D + 1) 0 [.ref 48, .ref 43, .ref 61, .int x3] M post px := by
  refine z_meth (by decide) (Nat.le_of_ble_eq_true rfl) ?_
  show Z E jX10_weigh (D + 1) 0 (zQv post px) 0 0 [.ref 48, .ref 43, .ref 61, .int x3, zU, zU, zU] [] M
  refine z_iload_n dX10_weigh_0 rfl ?_
  refine z_bipush (v := (64 : Int32)) dX10_weigh_1 rfl ?_
  refine z_imul dX10_weigh_3 ?_
  refine z_istore dX10_weigh_4 (by decide) (ls' := [.ref 48, .ref 43, .ref 61, .int x3, .int (x3 * (64 : Int32)), zU, zU]) rfl ?_
  refine z_iconst (v := (0 : Int32)) dX10_weigh_6 rfl ?_
  refine z_istore dX10_weigh_7 (by decide) (ls' := [.ref 48, .ref 43, .ref 61, .int x3, .int (x3 * (64 : Int32)), .int (0 : Int32), zU]) rfl ?_
  exact h
theorem t_X10_weigh_9 {E : zEv} {D : Nat} {post : zM → Prop} {px : String → zM → Prop} {M : zM}   {y3 : Int32} {y4 : Int32} {y5 : Int32} (h : zCi E jX3_worldCount D 0 [.ref 61] M (fun r3 M1 => ((r3 ≤ y5 → post M1) ∧ (¬ r3 ≤ y5 → vp_in y3 8 ∧ (((y5 &&& (M1.1 73 (y3).toNatClampNeg)) = y5 → zCv E jX1_raise D 0 [.ref 43, .ref 61, .int y3, .int y5] M1 (fun M12 => ¬ (y5 * (5 : Int32)) < 0 ∧ ((y5 * (5 : Int32))).toNatClampNeg + ((5 : Int32)).toNatClampNeg ≤ 320 ∧ ∀ M18 : zM, M18 = zrow M12 49 (va_cpy (M12.1 47) (M12.1 49) ((0 : Int32)).toNatClampNeg ((y5 * (5 : Int32))).toNatClampNeg ((5 : Int32)).toNatClampNeg) → zCi E jX10_firstAlike D 0 [.ref 48, .int (M18.1 62 6), .int y4, .int y5] M18 (fun r22 M20 => vp_in (y4 + y5) 512 ∧ ∀ M25 : zM, M25 = zup M20 50 ((y4 + y5)).toNatClampNeg r22 → w_X10_weigh_129 E D post px y3 y4 y5 M25) px) px) ∧ (¬ (y5 &&& (M1.1 73 (y3).toNatClampNeg)) = y5 → ¬ ((y5 &&& (M1.1 73 (y3).toNatClampNeg)) * (5 : Int32)) < 0 ∧ ¬ (y5 * (5 : Int32)) < 0 ∧ (((y5 &&& (M1.1 73 (y3).toNatClampNeg)) * (5 : Int32))).toNatClampNeg + ((5 : Int32)).toNatClampNeg ≤ 320 ∧ ((y5 * (5 : Int32))).toNatClampNeg + ((5 : Int32)).toNatClampNeg ≤ 320 ∧ ∀ M35 : zM, M35 = zrow M1 49 (va_cpy (M1.1 49) (M1.1 49) (((y5 &&& (M1.1 73 (y3).toNatClampNeg)) * (5 : Int32))).toNatClampNeg ((y5 * (5 : Int32))).toNatClampNeg ((5 : Int32)).toNatClampNeg) → vp_in (y4 + (y5 &&& (M1.1 73 (y3).toNatClampNeg))) 512 ∧ vp_in (y4 + y5) 512 ∧ ∀ M41 : zM, M41 = zup M35 50 ((y4 + y5)).toNatClampNeg (M35.1 50 ((y4 + (y5 &&& (M1.1 73 (y3).toNatClampNeg)))).toNatClampNeg) → w_X10_weigh_129 E D post px y3 y4 y5 M41))))) px) : w_X10_weigh_9 E D post px y3 y4 y5 M := by
  show Z E jX10_weigh (D + 1) 0 (zQv post px) 9 0 [.ref 48, .ref 43, .ref 61, .int y3, .int y4, .int y5, zU] [] M
  refine z_iload dX10_weigh_9 rfl ?_
  refine z_aload_n dX10_weigh_11 rfl ?_
  refine z_callVi (As := []) (st := [.int y5]) dX10_weigh_12 zi_X10_24 rfl rfl zs_61 rfl rfl (Nat.le_of_ble_eq_true rfl) (by decide) (fun _ _ hx => hx) h ?_
  intro r3 M1 h2
  refine z_icmp_ge (tgt := 135) dX10_weigh_15 (by decide) (fun g4 => ?_) (fun g4 => ?_)
  · have h5 := h2.1 g4
    exact z_vret dX10_weigh_135 rfl (by decide) h5
  · have h6 := h2.2 g4
    refine z_iload dX10_weigh_18 rfl ?_
    refine z_aload_n dX10_weigh_20 rfl ?_
    refine z_getR dX10_weigh_21 zg_X10_30 zs_61 rfl ?_
    refine z_iload_n dX10_weigh_24 rfl ?_
    obtain ⟨g8, h7⟩ := h6
    refine z_iald dX10_weigh_25 zs_73 g8 ?_
    refine z_iand dX10_weigh_26 ?_
    refine z_istore dX10_weigh_27 (by decide) (ls' := [.ref 48, .ref 43, .ref 61, .int y3, .int y4, .int y5, .int (y5 &&& (M1.1 73 (y3).toNatClampNeg))]) rfl ?_
    refine z_iload dX10_weigh_29 rfl ?_
    refine z_iload dX10_weigh_31 rfl ?_
    refine z_icmp_eq (tgt := 79) dX10_weigh_33 (by decide) (fun g9 => ?_) (fun g9 => ?_)
    · have h10 := h7.1 g9
      refine z_aload_n dX10_weigh_79 rfl ?_
      refine z_aload_n dX10_weigh_80 rfl ?_
      refine z_iload_n dX10_weigh_81 rfl ?_
      refine z_iload dX10_weigh_82 rfl ?_
      refine z_callVv (As := [.ref 61, .int y3, .int y5]) (st := []) dX10_weigh_84 zi_X10_39 rfl rfl zs_43 rfl rfl (Nat.le_of_ble_eq_true rfl) (by decide) (fun _ _ hx => hx) h10 ?_
      intro M12 h13
      refine z_aload_n dX10_weigh_87 rfl ?_
      refine z_getR dX10_weigh_88 zg_X10_45 zs_43 rfl ?_
      refine z_iconst (v := (0 : Int32)) dX10_weigh_91 rfl ?_
      refine z_aload_n dX10_weigh_92 rfl ?_
      refine z_getR dX10_weigh_93 zg_X10_9 zs_48 rfl ?_
      refine z_iload dX10_weigh_96 rfl ?_
      refine z_iconst (v := (5 : Int32)) dX10_weigh_98 rfl ?_
      refine z_imul dX10_weigh_99 ?_
      refine z_iconst (v := (5 : Int32)) dX10_weigh_100 rfl ?_
      obtain ⟨g15, h14⟩ := h13
      obtain ⟨g17, h16⟩ := h14
      refine z_copy dX10_weigh_101 zc_X10_33 zs_47 zs_49 (by decide) g15 (by decide) (by decide) g17 (Nat.le_of_ble_eq_true rfl) ?_
      generalize hhM18 : zrow M12 49 (va_cpy (M12.1 47) (M12.1 49) ((0 : Int32)).toNatClampNeg ((y5 * (5 : Int32))).toNatClampNeg ((5 : Int32)).toNatClampNeg) = M18
      have h19 := h16 M18 hhM18.symm
      refine z_aload_n dX10_weigh_104 rfl ?_
      refine z_getR dX10_weigh_105 zg_X10_15 zs_48 rfl ?_
      refine z_iload dX10_weigh_108 rfl ?_
      refine z_iload dX10_weigh_110 rfl ?_
      refine z_iadd dX10_weigh_112 ?_
      refine z_aload_n dX10_weigh_113 rfl ?_
      refine z_aload_n dX10_weigh_114 rfl ?_
      refine z_getR dX10_weigh_115 zg_X10_48 zs_61 rfl ?_
      refine z_getI dX10_weigh_118 zg_X10_52 zs_62 rfl ?_
      refine z_iload dX10_weigh_121 rfl ?_
      refine z_iload dX10_weigh_123 rfl ?_
      refine z_callVi (As := [.int (M18.1 62 6), .int y4, .int y5]) (st := [.int (y4 + y5), .ref 50]) dX10_weigh_125 zi_X10_58 rfl rfl zs_48 rfl rfl (Nat.le_of_ble_eq_true rfl) (by decide) (fun _ _ hx => hx) h19 ?_
      intro r22 M20 h21
      obtain ⟨g24, h23⟩ := h21
      refine z_iast dX10_weigh_128 zs_50 g24 ?_
      generalize hhM25 : zup M20 50 ((y4 + y5)).toNatClampNeg r22 = M25
      have h26 := h23 M25 hhM25.symm
      refine z_weak [true, true, true, true, true, true, false] (ls' := [.ref 48, .ref 43, .ref 61, .int y3, .int y4, .int y5, zU]) rfl rfl ?_
      exact h26
    · have h11 := h7.2 g9
      refine z_aload_n dX10_weigh_36 rfl ?_
      refine z_getR dX10_weigh_37 zg_X10_9 zs_48 rfl ?_
      refine z_iload dX10_weigh_40 rfl ?_
      refine z_iconst (v := (5 : Int32)) dX10_weigh_42 rfl ?_
      refine z_imul dX10_weigh_43 ?_
      refine z_aload_n dX10_weigh_44 rfl ?_
      refine z_getR dX10_weigh_45 zg_X10_9 zs_48 rfl ?_
      refine z_iload dX10_weigh_48 rfl ?_
      refine z_iconst (v := (5 : Int32)) dX10_weigh_50 rfl ?_
      refine z_imul dX10_weigh_51 ?_
      refine z_iconst (v := (5 : Int32)) dX10_weigh_52 rfl ?_
      obtain ⟨g28, h27⟩ := h11
      obtain ⟨g30, h29⟩ := h27
      obtain ⟨g32, h31⟩ := h29
      obtain ⟨g34, h33⟩ := h31
      refine z_copy dX10_weigh_53 zc_X10_33 zs_49 zs_49 g28 g30 (by decide) g32 g34 (Nat.le_of_ble_eq_true rfl) ?_
      generalize hhM35 : zrow M1 49 (va_cpy (M1.1 49) (M1.1 49) (((y5 &&& (M1.1 73 (y3).toNatClampNeg)) * (5 : Int32))).toNatClampNeg ((y5 * (5 : Int32))).toNatClampNeg ((5 : Int32)).toNatClampNeg) = M35
      have h36 := h33 M35 hhM35.symm
      refine z_aload_n dX10_weigh_56 rfl ?_
      refine z_getR dX10_weigh_57 zg_X10_15 zs_48 rfl ?_
      refine z_iload dX10_weigh_60 rfl ?_
      refine z_iload dX10_weigh_62 rfl ?_
      refine z_iadd dX10_weigh_64 ?_
      refine z_aload_n dX10_weigh_65 rfl ?_
      refine z_getR dX10_weigh_66 zg_X10_15 zs_48 rfl ?_
      refine z_iload dX10_weigh_69 rfl ?_
      refine z_iload dX10_weigh_71 rfl ?_
      refine z_iadd dX10_weigh_73 ?_
      obtain ⟨g38, h37⟩ := h36
      refine z_iald dX10_weigh_74 zs_50 g38 ?_
      obtain ⟨g40, h39⟩ := h37
      refine z_iast dX10_weigh_75 zs_50 g40 ?_
      generalize hhM41 : zup M35 50 ((y4 + y5)).toNatClampNeg (M35.1 50 ((y4 + (y5 &&& (M1.1 73 (y3).toNatClampNeg)))).toNatClampNeg) = M41
      have h42 := h39 M41 hhM41.symm
      refine z_goto (tgt := 129) dX10_weigh_76 (by decide) ?_
      refine z_weak [true, true, true, true, true, true, false] (ls' := [.ref 48, .ref 43, .ref 61, .int y3, .int y4, .int y5, zU]) rfl rfl ?_
      exact h42
theorem t_X10_weigh_129 {E : zEv} {D : Nat} {post : zM → Prop} {px : String → zM → Prop} {M : zM}   {y3 : Int32} {y4 : Int32} {y5 : Int32} (h : w_X10_weigh_9 E D post px y3 y4 (y5 + (1 : Int32)) M) : w_X10_weigh_129 E D post px y3 y4 y5 M := by
  show Z E jX10_weigh (D + 1) 0 (zQv post px) 129 0 [.ref 48, .ref 43, .ref 61, .int y3, .int y4, .int y5, zU] [] M
  refine z_iinc dX10_weigh_129 rfl (by decide) (ls' := [.ref 48, .ref 43, .ref 61, .int y3, .int y4, .int (y5 + (1 : Int32)), zU]) rfl ?_
  refine z_goto (tgt := 9) dX10_weigh_132 (by decide) ?_
  exact h
def w_X10_firstAlike_3 (E : zEv) (D : Nat) (post : Int32 → zM → Prop) (px : String → zM → Prop)  (y1 : Int32) (y2 : Int32) (y3 : Int32) (y4 : Int32) (M : zM) : Prop := Z E jX10_firstAlike (D + 1) 0 (zQi post px) 3 0 [.ref 48, .int y1, .int y2, .int y3, .int y4] [] M
def w_X10_firstAlike_37 (E : zEv) (D : Nat) (post : Int32 → zM → Prop) (px : String → zM → Prop)  (y1 : Int32) (y2 : Int32) (y3 : Int32) (y4 : Int32) (M : zM) : Prop := Z E jX10_firstAlike (D + 1) 0 (zQi post px) 37 0 [.ref 48, .int y1, .int y2, .int y3, .int y4] [] M
theorem e_X10_firstAlike {E : zEv} {D : Nat} {post : Int32 → zM → Prop} {px : String → zM → Prop} {M : zM} {x1 : Int32} {x2 : Int32} {x3 : Int32}  (h : w_X10_firstAlike_3 E D post px x1 x2 x3 (0 : Int32) M) : zCi E jX10_firstAlike (D + 1) 0 [.ref 48, .int x1, .int x2, .int x3] M post px := by
  refine z_meth (by decide) (Nat.le_of_ble_eq_true rfl) ?_
  show Z E jX10_firstAlike (D + 1) 0 (zQi post px) 0 0 [.ref 48, .int x1, .int x2, .int x3, zU] [] M
  refine z_iconst (v := (0 : Int32)) dX10_firstAlike_0 rfl ?_
  refine z_istore dX10_firstAlike_1 (by decide) (ls' := [.ref 48, .int x1, .int x2, .int x3, .int (0 : Int32)]) rfl ?_
  exact h
theorem t_X10_firstAlike_3 {E : zEv} {D : Nat} {post : Int32 → zM → Prop} {px : String → zM → Prop} {M : zM}   {y1 : Int32} {y2 : Int32} {y3 : Int32} {y4 : Int32} (h : ((y3 ≤ y4 → post y3 M) ∧ (¬ y3 ≤ y4 → vp_in (y2 + y4) 512 ∧ ((¬ (M.1 50 ((y2 + y4)).toNatClampNeg) = y4 → w_X10_firstAlike_37 E D post px y1 y2 y3 y4 M) ∧ ((M.1 50 ((y2 + y4)).toNatClampNeg) = y4 → zCi E jX10_isAlike D 0 [.ref 48, .int y1, .int y4, .int y3] M (fun r11 M9 => ((r11 = 0 → w_X10_firstAlike_37 E D post px y1 y2 y3 y4 M9) ∧ (¬ r11 = 0 → post y4 M9))) px))))) : w_X10_firstAlike_3 E D post px y1 y2 y3 y4 M := by
  show Z E jX10_firstAlike (D + 1) 0 (zQi post px) 3 0 [.ref 48, .int y1, .int y2, .int y3, .int y4] [] M
  refine z_iload dX10_firstAlike_3 rfl ?_
  refine z_iload_n dX10_firstAlike_5 rfl ?_
  refine z_icmp_ge (tgt := 43) dX10_firstAlike_6 (by decide) (fun g1 => ?_) (fun g1 => ?_)
  · have h2 := h.1 g1
    refine z_iload_n dX10_firstAlike_43 rfl ?_
    exact z_iret dX10_firstAlike_44 rfl rfl (by decide) h2
  · have h3 := h.2 g1
    refine z_aload_n dX10_firstAlike_9 rfl ?_
    refine z_getR dX10_firstAlike_10 zg_X10_15 zs_48 rfl ?_
    refine z_iload_n dX10_firstAlike_13 rfl ?_
    refine z_iload dX10_firstAlike_14 rfl ?_
    refine z_iadd dX10_firstAlike_16 ?_
    obtain ⟨g5, h4⟩ := h3
    refine z_iald dX10_firstAlike_17 zs_50 g5 ?_
    refine z_iload dX10_firstAlike_18 rfl ?_
    refine z_icmp_ne (tgt := 37) dX10_firstAlike_20 (by decide) (fun g6 => ?_) (fun g6 => ?_)
    · have h7 := h4.1 g6
      exact h7
    · have h8 := h4.2 g6
      refine z_aload_n dX10_firstAlike_23 rfl ?_
      refine z_iload_n dX10_firstAlike_24 rfl ?_
      refine z_iload dX10_firstAlike_25 rfl ?_
      refine z_iload_n dX10_firstAlike_27 rfl ?_
      refine z_callVi (As := [.int y1, .int y4, .int y3]) (st := []) dX10_firstAlike_28 zi_X10_62 rfl rfl zs_48 rfl rfl (Nat.le_of_ble_eq_true rfl) (by decide) (fun _ _ hx => hx) h8 ?_
      intro r11 M9 h10
      refine z_if_eq (tgt := 37) dX10_firstAlike_31 (by decide) (fun g12 => ?_) (fun g12 => ?_)
      · have h13 := h10.1 g12
        exact h13
      · have h14 := h10.2 g12
        refine z_iload dX10_firstAlike_34 rfl ?_
        exact z_iret dX10_firstAlike_36 rfl rfl (by decide) h14
theorem t_X10_firstAlike_37 {E : zEv} {D : Nat} {post : Int32 → zM → Prop} {px : String → zM → Prop} {M : zM}   {y1 : Int32} {y2 : Int32} {y3 : Int32} {y4 : Int32} (h : w_X10_firstAlike_3 E D post px y1 y2 y3 (y4 + (1 : Int32)) M) : w_X10_firstAlike_37 E D post px y1 y2 y3 y4 M := by
  show Z E jX10_firstAlike (D + 1) 0 (zQi post px) 37 0 [.ref 48, .int y1, .int y2, .int y3, .int y4] [] M
  refine z_iinc dX10_firstAlike_37 rfl (by decide) (ls' := [.ref 48, .int y1, .int y2, .int y3, .int (y4 + (1 : Int32))]) rfl ?_
  refine z_goto (tgt := 3) dX10_firstAlike_40 (by decide) ?_
  exact h
def w_X10_isAlike_3 (E : zEv) (D : Nat) (post : Int32 → zM → Prop) (px : String → zM → Prop)  (y1 : Int32) (y2 : Int32) (y3 : Int32) (y4 : Int32) (M : zM) : Prop := Z E jX10_isAlike D 0 (zQi post px) 3 0 [.ref 48, .int y1, .int y2, .int y3, .int y4] [] M
theorem e_X10_isAlike {E : zEv} {D : Nat} {post : Int32 → zM → Prop} {px : String → zM → Prop} {M : zM} {x1 : Int32} {x2 : Int32} {x3 : Int32}  (h : w_X10_isAlike_3 E D post px x1 x2 x3 (0 : Int32) M) : zCi E jX10_isAlike D 0 [.ref 48, .int x1, .int x2, .int x3] M post px := by
  refine z_meth (by decide) (Nat.le_of_ble_eq_true rfl) ?_
  show Z E jX10_isAlike D 0 (zQi post px) 0 0 [.ref 48, .int x1, .int x2, .int x3, zU] [] M
  refine z_iconst (v := (0 : Int32)) dX10_isAlike_0 rfl ?_
  refine z_istore dX10_isAlike_1 (by decide) (ls' := [.ref 48, .int x1, .int x2, .int x3, .int (0 : Int32)]) rfl ?_
  exact h
theorem t_X10_isAlike_3 {E : zEv} {D : Nat} {post : Int32 → zM → Prop} {px : String → zM → Prop} {M : zM}   {y1 : Int32} {y2 : Int32} {y3 : Int32} {y4 : Int32} (h : ((y1 ≤ y4 → post (1 : Int32) M) ∧ (¬ y1 ≤ y4 → vp_in ((y2 * (5 : Int32)) + y4) 320 ∧ vp_in ((y3 * (5 : Int32)) + y4) 320 ∧ (((M.1 49 (((y2 * (5 : Int32)) + y4)).toNatClampNeg) = (M.1 49 (((y3 * (5 : Int32)) + y4)).toNatClampNeg) → w_X10_isAlike_3 E D post px y1 y2 y3 (y4 + (1 : Int32)) M) ∧ (¬ (M.1 49 (((y2 * (5 : Int32)) + y4)).toNatClampNeg) = (M.1 49 (((y3 * (5 : Int32)) + y4)).toNatClampNeg) → post (0 : Int32) M))))) : w_X10_isAlike_3 E D post px y1 y2 y3 y4 M := by
  show Z E jX10_isAlike D 0 (zQi post px) 3 0 [.ref 48, .int y1, .int y2, .int y3, .int y4] [] M
  refine z_iload dX10_isAlike_3 rfl ?_
  refine z_iload_n dX10_isAlike_5 rfl ?_
  refine z_icmp_ge (tgt := 42) dX10_isAlike_6 (by decide) (fun g1 => ?_) (fun g1 => ?_)
  · have h2 := h.1 g1
    refine z_iconst (v := (1 : Int32)) dX10_isAlike_42 rfl ?_
    exact z_iret dX10_isAlike_43 rfl (by decide) (by decide) h2
  · have h3 := h.2 g1
    refine z_aload_n dX10_isAlike_9 rfl ?_
    refine z_getR dX10_isAlike_10 zg_X10_9 zs_48 rfl ?_
    refine z_iload_n dX10_isAlike_13 rfl ?_
    refine z_iconst (v := (5 : Int32)) dX10_isAlike_14 rfl ?_
    refine z_imul dX10_isAlike_15 ?_
    refine z_iload dX10_isAlike_16 rfl ?_
    refine z_iadd dX10_isAlike_18 ?_
    obtain ⟨g5, h4⟩ := h3
    refine z_iald dX10_isAlike_19 zs_49 g5 ?_
    refine z_aload_n dX10_isAlike_20 rfl ?_
    refine z_getR dX10_isAlike_21 zg_X10_9 zs_48 rfl ?_
    refine z_iload_n dX10_isAlike_24 rfl ?_
    refine z_iconst (v := (5 : Int32)) dX10_isAlike_25 rfl ?_
    refine z_imul dX10_isAlike_26 ?_
    refine z_iload dX10_isAlike_27 rfl ?_
    refine z_iadd dX10_isAlike_29 ?_
    obtain ⟨g7, h6⟩ := h4
    refine z_iald dX10_isAlike_30 zs_49 g7 ?_
    refine z_icmp_eq (tgt := 36) dX10_isAlike_31 (by decide) (fun g8 => ?_) (fun g8 => ?_)
    · have h9 := h6.1 g8
      refine z_iinc dX10_isAlike_36 rfl (by decide) (ls' := [.ref 48, .int y1, .int y2, .int y3, .int (y4 + (1 : Int32))]) rfl ?_
      refine z_goto (tgt := 3) dX10_isAlike_39 (by decide) ?_
      exact h9
    · have h10 := h6.2 g8
      refine z_iconst (v := (0 : Int32)) dX10_isAlike_34 rfl ?_
      exact z_iret dX10_isAlike_35 rfl (by decide) (by decide) h10
def w_X10_fitting_25 (E : zEv) (D : Nat) (post : Int64 → zM → Prop) (px : String → zM → Prop)  (y4 : Int32) (y5 : Int32) (s0 : Int64) (M : zM) : Prop := Z E jX10_fitting (D + 1) 0 (zQl post px) 25 0 [.ref 48, .ref 43, .ref 61, .ref 20, .int y4, .int y5, zU, zU, zU, zU, zU] [.long s0] M
def w_X10_fitting_30 (E : zEv) (D : Nat) (post : Int64 → zM → Prop) (px : String → zM → Prop)  (y4 : Int32) (y5 : Int32) (y6 : Int64) (y8 : Int32) (M : zM) : Prop := Z E jX10_fitting (D + 1) 0 (zQl post px) 30 0 [.ref 48, .ref 43, .ref 61, .ref 20, .int y4, .int y5, .long y6, zU, .int y8, zU, zU] [] M
def w_X10_fitting_45 (E : zEv) (D : Nat) (post : Int64 → zM → Prop) (px : String → zM → Prop)  (y4 : Int32) (y5 : Int32) (y6 : Int64) (y8 : Int32) (y9 : Int32) (y10 : Int32) (M : zM) : Prop := Z E jX10_fitting (D + 1) 0 (zQl post px) 45 0 [.ref 48, .ref 43, .ref 61, .ref 20, .int y4, .int y5, .long y6, zU, .int y8, .int y9, .int y10] [] M
def w_X10_fitting_83 (E : zEv) (D : Nat) (post : Int64 → zM → Prop) (px : String → zM → Prop)  (y4 : Int32) (y5 : Int32) (y6 : Int64) (y8 : Int32) (y9 : Int32) (y10 : Int32) (M : zM) : Prop := Z E jX10_fitting (D + 1) 0 (zQl post px) 83 0 [.ref 48, .ref 43, .ref 61, .ref 20, .int y4, .int y5, .long y6, zU, .int y8, .int y9, .int y10] [] M
def w_X10_fitting_108 (E : zEv) (D : Nat) (post : Int64 → zM → Prop) (px : String → zM → Prop)  (y4 : Int32) (y5 : Int32) (y6 : Int64) (y8 : Int32) (y9 : Int32) (y10 : Int32) (M : zM) : Prop := Z E jX10_fitting (D + 1) 0 (zQl post px) 108 0 [.ref 48, .ref 43, .ref 61, .ref 20, .int y4, .int y5, .long y6, zU, .int y8, .int y9, .int y10] [] M
theorem e_X10_fitting {E : zEv} {D : Nat} {post : Int64 → zM → Prop} {px : String → zM → Prop} {M : zM} {x4 : Int32}  (h : zCi E jX3_worldCount D 0 [.ref 61] M (fun r3 M1 => ((r3 < (64 : Int32) → w_X10_fitting_25 E D post px x4 r3 ((zlshl (1 : Int64) r3) - (1 : Int64)) M1) ∧ (¬ r3 < (64 : Int32) → w_X10_fitting_25 E D post px x4 r3 (-1 : Int64) M1))) px) : zCl E jX10_fitting (D + 1) 0 [.ref 48, .ref 43, .ref 61, .ref 20, .int x4] M post px := by
  refine z_meth (by decide) (Nat.le_of_ble_eq_true rfl) ?_
  show Z E jX10_fitting (D + 1) 0 (zQl post px) 0 0 [.ref 48, .ref 43, .ref 61, .ref 20, .int x4, zU, zU, zU, zU, zU, zU] [] M
  refine z_aload_n dX10_fitting_0 rfl ?_
  refine z_callVi (As := []) (st := []) dX10_fitting_1 zi_X10_24 rfl rfl zs_61 rfl rfl (Nat.le_of_ble_eq_true rfl) (by decide) (fun _ _ hx => hx) h ?_
  intro r3 M1 h2
  refine z_istore dX10_fitting_4 (by decide) (ls' := [.ref 48, .ref 43, .ref 61, .ref 20, .int x4, .int r3, zU, zU, zU, zU, zU]) rfl ?_
  refine z_iload dX10_fitting_6 rfl ?_
  refine z_bipush (v := (64 : Int32)) dX10_fitting_8 rfl ?_
  refine z_icmp_lt (tgt := 19) dX10_fitting_10 (by decide) (fun g4 => ?_) (fun g4 => ?_)
  · have h5 := h2.1 g4
    refine z_lconst (v := (1 : Int64)) dX10_fitting_19 rfl ?_
    refine z_iload dX10_fitting_20 rfl ?_
    refine z_lshl (v := (zlshl (1 : Int64) r3)) dX10_fitting_22 rfl ?_
    refine z_lconst (v := (1 : Int64)) dX10_fitting_23 rfl ?_
    refine z_lsub dX10_fitting_24 ?_
    exact h5
  · have h6 := h2.2 g4
    refine z_ldc2 (v := (-1 : Int64)) dX10_fitting_13 zw_1216 ?_
    refine z_goto (tgt := 25) dX10_fitting_16 (by decide) ?_
    exact h6
theorem t_X10_fitting_25 {E : zEv} {D : Nat} {post : Int64 → zM → Prop} {px : String → zM → Prop} {M : zM}   {y4 : Int32} {y5 : Int32} {s0 : Int64} (h : w_X10_fitting_30 E D post px y4 y5 s0 (0 : Int32) M) : w_X10_fitting_25 E D post px y4 y5 s0 M := by
  show Z E jX10_fitting (D + 1) 0 (zQl post px) 25 0 [.ref 48, .ref 43, .ref 61, .ref 20, .int y4, .int y5, zU, zU, zU, zU, zU] [.long s0] M
  refine z_lstore dX10_fitting_25 (by decide) (ls' := [.ref 48, .ref 43, .ref 61, .ref 20, .int y4, .int y5, .long s0, zU, zU, zU, zU]) rfl ?_
  refine z_iconst (v := (0 : Int32)) dX10_fitting_27 rfl ?_
  refine z_istore dX10_fitting_28 (by decide) (ls' := [.ref 48, .ref 43, .ref 61, .ref 20, .int y4, .int y5, .long s0, zU, .int (0 : Int32), zU, zU]) rfl ?_
  exact h
theorem t_X10_fitting_30 {E : zEv} {D : Nat} {post : Int64 → zM → Prop} {px : String → zM → Prop} {M : zM}   {y4 : Int32} {y5 : Int32} {y6 : Int64} {y8 : Int32} (h : (((M.1 61 7) ≤ y8 → post y6 M) ∧ (¬ (M.1 61 7) ≤ y8 → w_X10_fitting_45 E D post px y4 y5 y6 y8 (0 : Int32) (0 : Int32) M))) : w_X10_fitting_30 E D post px y4 y5 y6 y8 M := by
  show Z E jX10_fitting (D + 1) 0 (zQl post px) 30 0 [.ref 48, .ref 43, .ref 61, .ref 20, .int y4, .int y5, .long y6, zU, .int y8, zU, zU] [] M
  refine z_iload dX10_fitting_30 rfl ?_
  refine z_aload_n dX10_fitting_32 rfl ?_
  refine z_getI dX10_fitting_33 zg_X10_68 zs_61 rfl ?_
  refine z_icmp_ge (tgt := 120) dX10_fitting_36 (by decide) (fun g1 => ?_) (fun g1 => ?_)
  · have h2 := h.1 g1
    refine z_lload dX10_fitting_120 rfl ?_
    exact z_lret dX10_fitting_122 rfl (by decide) h2
  · have h3 := h.2 g1
    refine z_iconst (v := (0 : Int32)) dX10_fitting_39 rfl ?_
    refine z_istore dX10_fitting_40 (by decide) (ls' := [.ref 48, .ref 43, .ref 61, .ref 20, .int y4, .int y5, .long y6, zU, .int y8, .int (0 : Int32), zU]) rfl ?_
    refine z_iconst (v := (0 : Int32)) dX10_fitting_42 rfl ?_
    refine z_istore dX10_fitting_43 (by decide) (ls' := [.ref 48, .ref 43, .ref 61, .ref 20, .int y4, .int y5, .long y6, zU, .int y8, .int (0 : Int32), .int (0 : Int32)]) rfl ?_
    exact h3
theorem t_X10_fitting_45 {E : zEv} {D : Nat} {post : Int64 → zM → Prop} {px : String → zM → Prop} {M : zM}   {y4 : Int32} {y5 : Int32} {y6 : Int64} {y8 : Int32} {y9 : Int32} {y10 : Int32} (h : ((y4 ≤ y10 → w_X10_fitting_30 E D post px y4 y5 y6 (y8 + (1 : Int32)) M) ∧ (¬ y4 ≤ y10 → zCi E jX9_told D 0 [.ref 20, .int y10, .int (0 : Int32)] M (fun r6 M4 => ((r6 = y8 → ((¬ y9 = 0 → w_X10_fitting_83 E D post px y4 y5 y6 y8 y9 y10 M4) ∧ (y9 = 0 → zCv E jX10_weigh D 0 [.ref 48, .ref 43, .ref 61, .int y8] M4 (fun M13 => w_X10_fitting_83 E D post px y4 y5 y6 y8 (1 : Int32) y10 M13) px))) ∧ (¬ r6 = y8 → w_X10_fitting_108 E D post px y4 y5 y6 y8 y9 y10 M4))) px))) : w_X10_fitting_45 E D post px y4 y5 y6 y8 y9 y10 M := by
  show Z E jX10_fitting (D + 1) 0 (zQl post px) 45 0 [.ref 48, .ref 43, .ref 61, .ref 20, .int y4, .int y5, .long y6, zU, .int y8, .int y9, .int y10] [] M
  refine z_iload dX10_fitting_45 rfl ?_
  refine z_iload dX10_fitting_47 rfl ?_
  refine z_icmp_ge (tgt := 114) dX10_fitting_49 (by decide) (fun g1 => ?_) (fun g1 => ?_)
  · have h2 := h.1 g1
    refine z_iinc dX10_fitting_114 rfl (by decide) (ls' := [.ref 48, .ref 43, .ref 61, .ref 20, .int y4, .int y5, .long y6, zU, .int (y8 + (1 : Int32)), .int y9, .int y10]) rfl ?_
    refine z_goto (tgt := 30) dX10_fitting_117 (by decide) ?_
    refine z_weak [true, true, true, true, true, true, true, false, true, false, false] (ls' := [.ref 48, .ref 43, .ref 61, .ref 20, .int y4, .int y5, .long y6, zU, .int (y8 + (1 : Int32)), zU, zU]) rfl rfl ?_
    exact h2
  · have h3 := h.2 g1
    refine z_aload_n dX10_fitting_52 rfl ?_
    refine z_iload dX10_fitting_53 rfl ?_
    refine z_iconst (v := (0 : Int32)) dX10_fitting_55 rfl ?_
    refine z_callVi (As := [.int y10, .int (0 : Int32)]) (st := []) dX10_fitting_56 zi_X10_71 rfl rfl zs_20 rfl rfl (Nat.le_of_ble_eq_true rfl) (by decide) (fun _ _ hx => hx) h3 ?_
    intro r6 M4 h5
    refine z_iload dX10_fitting_59 rfl ?_
    refine z_icmp_eq (tgt := 67) dX10_fitting_61 (by decide) (fun g7 => ?_) (fun g7 => ?_)
    · have h8 := h5.1 g7
      refine z_iload dX10_fitting_67 rfl ?_
      refine z_if_ne (tgt := 83) dX10_fitting_69 (by decide) (fun g10 => ?_) (fun g10 => ?_)
      · have h11 := h8.1 g10
        exact h11
      · have h12 := h8.2 g10
        refine z_aload_n dX10_fitting_72 rfl ?_
        refine z_aload_n dX10_fitting_73 rfl ?_
        refine z_aload_n dX10_fitting_74 rfl ?_
        refine z_iload dX10_fitting_75 rfl ?_
        refine z_callVv (As := [.ref 43, .ref 61, .int y8]) (st := []) dX10_fitting_77 zi_X10_77 rfl rfl zs_48 rfl rfl (Nat.le_of_ble_eq_true rfl) (by decide) (fun _ _ hx => hx) h12 ?_
        intro M13 h14
        refine z_iconst (v := (1 : Int32)) dX10_fitting_80 rfl ?_
        refine z_istore dX10_fitting_81 (by decide) (ls' := [.ref 48, .ref 43, .ref 61, .ref 20, .int y4, .int y5, .long y6, zU, .int y8, .int (1 : Int32), .int y10]) rfl ?_
        exact h14
    · have h9 := h5.2 g7
      refine z_goto (tgt := 108) dX10_fitting_64 (by decide) ?_
      exact h9
theorem t_X10_fitting_83 {E : zEv} {D : Nat} {post : Int64 → zM → Prop} {px : String → zM → Prop} {M : zM}   {y4 : Int32} {y5 : Int32} {y6 : Int64} {y8 : Int32} {y9 : Int32} {y10 : Int32} (h : zCi E jX9_told D 0 [.ref 20, .int y10, .int (1 : Int32)] M (fun r3 M1 => zCi E jX9_told D 0 [.ref 20, .int y10, .int (2 : Int32)] M1 (fun r6 M4 => zCl E jX10_fittingRow D 0 [.ref 48, .int y5, .int r3, .int r6] M4 (fun r9 M7 => w_X10_fitting_108 E D post px y4 y5 (y6 &&& r9) y8 y9 y10 M7) px) px) px) : w_X10_fitting_83 E D post px y4 y5 y6 y8 y9 y10 M := by
  show Z E jX10_fitting (D + 1) 0 (zQl post px) 83 0 [.ref 48, .ref 43, .ref 61, .ref 20, .int y4, .int y5, .long y6, zU, .int y8, .int y9, .int y10] [] M
  refine z_lload dX10_fitting_83 rfl ?_
  refine z_aload_n dX10_fitting_85 rfl ?_
  refine z_iload dX10_fitting_86 rfl ?_
  refine z_aload_n dX10_fitting_88 rfl ?_
  refine z_iload dX10_fitting_89 rfl ?_
  refine z_iconst (v := (1 : Int32)) dX10_fitting_91 rfl ?_
  refine z_callVi (As := [.int y10, .int (1 : Int32)]) (st := [.int y5, .ref 48, .long y6]) dX10_fitting_92 zi_X10_71 rfl rfl zs_20 rfl rfl (Nat.le_of_ble_eq_true rfl) (by decide) (fun _ _ hx => hx) h ?_
  intro r3 M1 h2
  refine z_aload_n dX10_fitting_95 rfl ?_
  refine z_iload dX10_fitting_96 rfl ?_
  refine z_iconst (v := (2 : Int32)) dX10_fitting_98 rfl ?_
  refine z_callVi (As := [.int y10, .int (2 : Int32)]) (st := [.int r3, .int y5, .ref 48, .long y6]) dX10_fitting_99 zi_X10_71 rfl rfl zs_20 rfl rfl (Nat.le_of_ble_eq_true rfl) (by decide) (fun _ _ hx => hx) h2 ?_
  intro r6 M4 h5
  refine z_callVl (As := [.int y5, .int r3, .int r6]) (st := [.long y6]) dX10_fitting_102 zi_X10_81 rfl rfl zs_48 rfl rfl (Nat.le_of_ble_eq_true rfl) (by decide) (fun _ _ hx => hx) h5 ?_
  intro r9 M7 h8
  refine z_land dX10_fitting_105 ?_
  refine z_lstore dX10_fitting_106 (by decide) (ls' := [.ref 48, .ref 43, .ref 61, .ref 20, .int y4, .int y5, .long (y6 &&& r9), zU, .int y8, .int y9, .int y10]) rfl ?_
  exact h8
theorem t_X10_fitting_108 {E : zEv} {D : Nat} {post : Int64 → zM → Prop} {px : String → zM → Prop} {M : zM}   {y4 : Int32} {y5 : Int32} {y6 : Int64} {y8 : Int32} {y9 : Int32} {y10 : Int32} (h : w_X10_fitting_45 E D post px y4 y5 y6 y8 y9 (y10 + (1 : Int32)) M) : w_X10_fitting_108 E D post px y4 y5 y6 y8 y9 y10 M := by
  show Z E jX10_fitting (D + 1) 0 (zQl post px) 108 0 [.ref 48, .ref 43, .ref 61, .ref 20, .int y4, .int y5, .long y6, zU, .int y8, .int y9, .int y10] [] M
  refine z_iinc dX10_fitting_108 rfl (by decide) (ls' := [.ref 48, .ref 43, .ref 61, .ref 20, .int y4, .int y5, .long y6, zU, .int y8, .int y9, .int (y10 + (1 : Int32))]) rfl ?_
  refine z_goto (tgt := 45) dX10_fitting_111 (by decide) ?_
  exact h
def w_X10_fittingRow_6 (E : zEv) (D : Nat) (post : Int64 → zM → Prop) (px : String → zM → Prop)  (y1 : Int32) (y2 : Int32) (y3 : Int32) (y4 : Int64) (y6 : Int32) (M : zM) : Prop := Z E jX10_fittingRow D 0 (zQl post px) 6 0 [.ref 48, .int y1, .int y2, .int y3, .long y4, zU, .int y6, zU] [] M
def w_X10_fittingRow_50 (E : zEv) (D : Nat) (post : Int64 → zM → Prop) (px : String → zM → Prop)  (y1 : Int32) (y2 : Int32) (y3 : Int32) (y4 : Int64) (y6 : Int32) (M : zM) : Prop := Z E jX10_fittingRow D 0 (zQl post px) 50 0 [.ref 48, .int y1, .int y2, .int y3, .long y4, zU, .int y6, zU] [] M
theorem e_X10_fittingRow {E : zEv} {D : Nat} {post : Int64 → zM → Prop} {px : String → zM → Prop} {M : zM} {x1 : Int32} {x2 : Int32} {x3 : Int32}  (h : w_X10_fittingRow_6 E D post px x1 x2 x3 (0 : Int64) (0 : Int32) M) : zCl E jX10_fittingRow D 0 [.ref 48, .int x1, .int x2, .int x3] M post px := by
  refine z_meth (by decide) (Nat.le_of_ble_eq_true rfl) ?_
  show Z E jX10_fittingRow D 0 (zQl post px) 0 0 [.ref 48, .int x1, .int x2, .int x3, zU, zU, zU, zU] [] M
  refine z_lconst (v := (0 : Int64)) dX10_fittingRow_0 rfl ?_
  refine z_lstore dX10_fittingRow_1 (by decide) (ls' := [.ref 48, .int x1, .int x2, .int x3, .long (0 : Int64), zU, zU, zU]) rfl ?_
  refine z_iconst (v := (0 : Int32)) dX10_fittingRow_3 rfl ?_
  refine z_istore dX10_fittingRow_4 (by decide) (ls' := [.ref 48, .int x1, .int x2, .int x3, .long (0 : Int64), zU, .int (0 : Int32), zU]) rfl ?_
  exact h
theorem t_X10_fittingRow_6 {E : zEv} {D : Nat} {post : Int64 → zM → Prop} {px : String → zM → Prop} {M : zM}   {y1 : Int32} {y2 : Int32} {y3 : Int32} {y4 : Int64} {y6 : Int32} (h : ((y1 ≤ y6 → post y4 M) ∧ (¬ y1 ≤ y6 → (((320 : Int32) ≤ ((y6 * (5 : Int32)) + y2) → w_X10_fittingRow_50 E D post px y1 y2 y3 y4 y6 M) ∧ (¬ (320 : Int32) ≤ ((y6 * (5 : Int32)) + y2) → vp_in ((y6 * (5 : Int32)) + y2) 320 ∧ ((¬ (M.1 49 (((y6 * (5 : Int32)) + y2)).toNatClampNeg) = y3 → w_X10_fittingRow_50 E D post px y1 y2 y3 y4 y6 M) ∧ ((M.1 49 (((y6 * (5 : Int32)) + y2)).toNatClampNeg) = y3 → w_X10_fittingRow_50 E D post px y1 y2 y3 (y4 ||| (zlshl (1 : Int64) y6)) y6 M))))))) : w_X10_fittingRow_6 E D post px y1 y2 y3 y4 y6 M := by
  show Z E jX10_fittingRow D 0 (zQl post px) 6 0 [.ref 48, .int y1, .int y2, .int y3, .long y4, zU, .int y6, zU] [] M
  refine z_iload dX10_fittingRow_6 rfl ?_
  refine z_iload_n dX10_fittingRow_8 rfl ?_
  refine z_icmp_ge (tgt := 56) dX10_fittingRow_9 (by decide) (fun g1 => ?_) (fun g1 => ?_)
  · have h2 := h.1 g1
    refine z_lload dX10_fittingRow_56 rfl ?_
    exact z_lret dX10_fittingRow_58 rfl (by decide) h2
  · have h3 := h.2 g1
    refine z_iload dX10_fittingRow_12 rfl ?_
    refine z_iconst (v := (5 : Int32)) dX10_fittingRow_14 rfl ?_
    refine z_imul dX10_fittingRow_15 ?_
    refine z_iload_n dX10_fittingRow_16 rfl ?_
    refine z_iadd dX10_fittingRow_17 ?_
    refine z_istore dX10_fittingRow_18 (by decide) (ls' := [.ref 48, .int y1, .int y2, .int y3, .long y4, zU, .int y6, .int ((y6 * (5 : Int32)) + y2)]) rfl ?_
    refine z_iload dX10_fittingRow_20 rfl ?_
    refine z_aload_n dX10_fittingRow_22 rfl ?_
    refine z_getR dX10_fittingRow_23 zg_X10_9 zs_48 rfl ?_
    refine z_alen (v := (320 : Int32)) dX10_fittingRow_26 zs_49 rfl ?_
    refine z_icmp_ge (tgt := 50) dX10_fittingRow_27 (by decide) (fun g4 => ?_) (fun g4 => ?_)
    · have h5 := h3.1 g4
      refine z_weak [true, true, true, true, true, false, true, false] (ls' := [.ref 48, .int y1, .int y2, .int y3, .long y4, zU, .int y6, zU]) rfl rfl ?_
      exact h5
    · have h6 := h3.2 g4
      refine z_aload_n dX10_fittingRow_30 rfl ?_
      refine z_getR dX10_fittingRow_31 zg_X10_9 zs_48 rfl ?_
      refine z_iload dX10_fittingRow_34 rfl ?_
      obtain ⟨g8, h7⟩ := h6
      refine z_iald dX10_fittingRow_36 zs_49 g8 ?_
      refine z_iload_n dX10_fittingRow_37 rfl ?_
      refine z_icmp_ne (tgt := 50) dX10_fittingRow_38 (by decide) (fun g9 => ?_) (fun g9 => ?_)
      · have h10 := h7.1 g9
        refine z_weak [true, true, true, true, true, false, true, false] (ls' := [.ref 48, .int y1, .int y2, .int y3, .long y4, zU, .int y6, zU]) rfl rfl ?_
        exact h10
      · have h11 := h7.2 g9
        refine z_lload dX10_fittingRow_41 rfl ?_
        refine z_lconst (v := (1 : Int64)) dX10_fittingRow_43 rfl ?_
        refine z_iload dX10_fittingRow_44 rfl ?_
        refine z_lshl (v := (zlshl (1 : Int64) y6)) dX10_fittingRow_46 rfl ?_
        refine z_lor dX10_fittingRow_47 ?_
        refine z_lstore dX10_fittingRow_48 (by decide) (ls' := [.ref 48, .int y1, .int y2, .int y3, .long (y4 ||| (zlshl (1 : Int64) y6)), zU, .int y6, .int ((y6 * (5 : Int32)) + y2)]) rfl ?_
        refine z_weak [true, true, true, true, true, false, true, false] (ls' := [.ref 48, .int y1, .int y2, .int y3, .long (y4 ||| (zlshl (1 : Int64) y6)), zU, .int y6, zU]) rfl rfl ?_
        exact h11
theorem t_X10_fittingRow_50 {E : zEv} {D : Nat} {post : Int64 → zM → Prop} {px : String → zM → Prop} {M : zM}   {y1 : Int32} {y2 : Int32} {y3 : Int32} {y4 : Int64} {y6 : Int32} (h : w_X10_fittingRow_6 E D post px y1 y2 y3 y4 (y6 + (1 : Int32)) M) : w_X10_fittingRow_50 E D post px y1 y2 y3 y4 y6 M := by
  show Z E jX10_fittingRow D 0 (zQl post px) 50 0 [.ref 48, .int y1, .int y2, .int y3, .long y4, zU, .int y6, zU] [] M
  refine z_iinc dX10_fittingRow_50 rfl (by decide) (ls' := [.ref 48, .int y1, .int y2, .int y3, .long y4, zU, .int (y6 + (1 : Int32)), zU]) rfl ?_
  refine z_goto (tgt := 6) dX10_fittingRow_53 (by decide) ?_
  exact h
def w_X10_greatestPart_21 (E : zEv) (D : Nat) (post : Int32 → zM → Prop) (px : String → zM → Prop)  (y3 : Int32) (y4 : Int64) (y6 : Int32) (y7 : Int32) (M : zM) : Prop := Z E jX10_greatestPart (D + 1) 0 (zQi post px) 21 0 [.ref 48, zU, .ref 61, .int y3, .long y4, zU, .int y6, .int y7, zU] [] M
def w_X10_greatestPart_81 (E : zEv) (D : Nat) (post : Int32 → zM → Prop) (px : String → zM → Prop)  (y3 : Int32) (y4 : Int64) (y6 : Int32) (y7 : Int32) (M : zM) : Prop := Z E jX10_greatestPart (D + 1) 0 (zQi post px) 81 0 [.ref 48, zU, .ref 61, .int y3, .long y4, zU, .int y6, .int y7, zU] [] M
theorem e_X10_greatestPart {E : zEv} {D : Nat} {post : Int32 → zM → Prop} {px : String → zM → Prop} {M : zM} {x3 : Int32} {x4 : Int64}  (h : zCv E jX10_weigh D 0 [.ref 48, .ref 43, .ref 61, .int x3] M (fun M1 => zCv E jJ7_fill_53178 D 0 [.ref 51, .int (0 : Int32)] M1 (fun M3 => w_X10_greatestPart_21 E D post px x3 x4 (0 : Int32) (0 : Int32) M3) px) px) : zCi E jX10_greatestPart (D + 1) 0 [.ref 48, .ref 43, .ref 61, .int x3, .long x4] M post px := by
  refine z_meth (by decide) (Nat.le_of_ble_eq_true rfl) ?_
  show Z E jX10_greatestPart (D + 1) 0 (zQi post px) 0 0 [.ref 48, .ref 43, .ref 61, .int x3, .long x4, zU, zU, zU, zU] [] M
  refine z_aload_n dX10_greatestPart_0 rfl ?_
  refine z_aload_n dX10_greatestPart_1 rfl ?_
  refine z_aload_n dX10_greatestPart_2 rfl ?_
  refine z_iload_n dX10_greatestPart_3 rfl ?_
  refine z_callVv (As := [.ref 43, .ref 61, .int x3]) (st := []) dX10_greatestPart_4 zi_X10_77 rfl rfl zs_48 rfl rfl (Nat.le_of_ble_eq_true rfl) (by decide) (fun _ _ hx => hx) h ?_
  intro M1 h2
  refine z_aload_n dX10_greatestPart_7 rfl ?_
  refine z_getR dX10_greatestPart_8 zg_X10_18 zs_48 rfl ?_
  refine z_iconst (v := (0 : Int32)) dX10_greatestPart_11 rfl ?_
  refine z_callSv (As := [.ref 51, .int (0 : Int32)]) (st := []) dX10_greatestPart_12 zi_X10_85 rfl rfl (Nat.le_of_ble_eq_true rfl) (by decide) (fun _ _ hx => hx) h2 ?_
  intro M3 h4
  refine z_iconst (v := (0 : Int32)) dX10_greatestPart_15 rfl ?_
  refine z_istore dX10_greatestPart_16 (by decide) (ls' := [.ref 48, .ref 43, .ref 61, .int x3, .long x4, zU, .int (0 : Int32), zU, zU]) rfl ?_
  refine z_iconst (v := (0 : Int32)) dX10_greatestPart_18 rfl ?_
  refine z_istore dX10_greatestPart_19 (by decide) (ls' := [.ref 48, .ref 43, .ref 61, .int x3, .long x4, zU, .int (0 : Int32), .int (0 : Int32), zU]) rfl ?_
  refine z_weak [true, false, true, true, true, false, true, true, false] (ls' := [.ref 48, zU, .ref 61, .int x3, .long x4, zU, .int (0 : Int32), .int (0 : Int32), zU]) rfl rfl ?_
  exact h4
theorem t_X10_greatestPart_21 {E : zEv} {D : Nat} {post : Int32 → zM → Prop} {px : String → zM → Prop} {M : zM}   {y3 : Int32} {y4 : Int64} {y6 : Int32} {y7 : Int32} (h : zCi E jX3_worldCount D 0 [.ref 61] M (fun r3 M1 => ((r3 ≤ y7 → post y6 M1) ∧ (¬ r3 ≤ y7 → (((lg_cmp ((zlushr y4 y7) &&& (1 : Int64)) (0 : Int64)) = 0 → w_X10_greatestPart_81 E D post px y3 y4 y6 y7 M1) ∧ (¬ (lg_cmp ((zlushr y4 y7) &&& (1 : Int64)) (0 : Int64)) = 0 → vp_in ((y3 * (64 : Int32)) + y7) 512 ∧ vp_in (M1.1 50 (((y3 * (64 : Int32)) + y7)).toNatClampNeg) 64 ∧ vp_in (M1.1 50 (((y3 * (64 : Int32)) + y7)).toNatClampNeg) 64 ∧ ∀ M16 : zM, M16 = zup M1 51 ((M1.1 50 (((y3 * (64 : Int32)) + y7)).toNatClampNeg)).toNatClampNeg ((M1.1 51 ((M1.1 50 (((y3 * (64 : Int32)) + y7)).toNatClampNeg)).toNatClampNeg) + (1 : Int32)) → vp_in (M1.1 50 (((y3 * (64 : Int32)) + y7)).toNatClampNeg) 64 ∧ w_X10_greatestPart_81 E D post px y3 y4 (zmax y6 (M16.1 51 ((M1.1 50 (((y3 * (64 : Int32)) + y7)).toNatClampNeg)).toNatClampNeg)) y7 M16))))) px) : w_X10_greatestPart_21 E D post px y3 y4 y6 y7 M := by
  show Z E jX10_greatestPart (D + 1) 0 (zQi post px) 21 0 [.ref 48, zU, .ref 61, .int y3, .long y4, zU, .int y6, .int y7, zU] [] M
  refine z_iload dX10_greatestPart_21 rfl ?_
  refine z_aload_n dX10_greatestPart_23 rfl ?_
  refine z_callVi (As := []) (st := [.int y7]) dX10_greatestPart_24 zi_X10_24 rfl rfl zs_61 rfl rfl (Nat.le_of_ble_eq_true rfl) (by decide) (fun _ _ hx => hx) h ?_
  intro r3 M1 h2
  refine z_icmp_ge (tgt := 87) dX10_greatestPart_27 (by decide) (fun g4 => ?_) (fun g4 => ?_)
  · have h5 := h2.1 g4
    refine z_iload dX10_greatestPart_87 rfl ?_
    exact z_iret dX10_greatestPart_89 rfl rfl (by decide) h5
  · have h6 := h2.2 g4
    refine z_lload dX10_greatestPart_30 rfl ?_
    refine z_iload dX10_greatestPart_32 rfl ?_
    refine z_lushr (v := (zlushr y4 y7)) dX10_greatestPart_34 rfl ?_
    refine z_lconst (v := (1 : Int64)) dX10_greatestPart_35 rfl ?_
    refine z_land dX10_greatestPart_36 ?_
    refine z_lconst (v := (0 : Int64)) dX10_greatestPart_37 rfl ?_
    refine z_lcmp dX10_greatestPart_38 ?_
    refine z_if_eq (tgt := 81) dX10_greatestPart_39 (by decide) (fun g7 => ?_) (fun g7 => ?_)
    · have h8 := h6.1 g7
      exact h8
    · have h9 := h6.2 g7
      refine z_aload_n dX10_greatestPart_42 rfl ?_
      refine z_getR dX10_greatestPart_43 zg_X10_15 zs_48 rfl ?_
      refine z_iload_n dX10_greatestPart_46 rfl ?_
      refine z_bipush (v := (64 : Int32)) dX10_greatestPart_47 rfl ?_
      refine z_imul dX10_greatestPart_49 ?_
      refine z_iload dX10_greatestPart_50 rfl ?_
      refine z_iadd dX10_greatestPart_52 ?_
      obtain ⟨g11, h10⟩ := h9
      refine z_iald dX10_greatestPart_53 zs_50 g11 ?_
      refine z_istore dX10_greatestPart_54 (by decide) (ls' := [.ref 48, zU, .ref 61, .int y3, .long y4, zU, .int y6, .int y7, .int (M1.1 50 (((y3 * (64 : Int32)) + y7)).toNatClampNeg)]) rfl ?_
      refine z_aload_n dX10_greatestPart_56 rfl ?_
      refine z_getR dX10_greatestPart_57 zg_X10_18 zs_48 rfl ?_
      refine z_iload dX10_greatestPart_60 rfl ?_
      refine z_dup2 dX10_greatestPart_62 rfl rfl ?_
      obtain ⟨g13, h12⟩ := h10
      refine z_iald dX10_greatestPart_63 zs_51 g13 ?_
      refine z_iconst (v := (1 : Int32)) dX10_greatestPart_64 rfl ?_
      refine z_iadd dX10_greatestPart_65 ?_
      obtain ⟨g15, h14⟩ := h12
      refine z_iast dX10_greatestPart_66 zs_51 g15 ?_
      generalize hhM16 : zup M1 51 ((M1.1 50 (((y3 * (64 : Int32)) + y7)).toNatClampNeg)).toNatClampNeg ((M1.1 51 ((M1.1 50 (((y3 * (64 : Int32)) + y7)).toNatClampNeg)).toNatClampNeg) + (1 : Int32)) = M16
      have h17 := h14 M16 hhM16.symm
      refine z_iload dX10_greatestPart_67 rfl ?_
      refine z_aload_n dX10_greatestPart_69 rfl ?_
      refine z_getR dX10_greatestPart_70 zg_X10_18 zs_48 rfl ?_
      refine z_iload dX10_greatestPart_73 rfl ?_
      obtain ⟨g19, h18⟩ := h17
      refine z_iald dX10_greatestPart_75 zs_51 g19 ?_
      refine z_max dX10_greatestPart_76 zm_X10_91 (Nat.le_of_ble_eq_true rfl) (by decide) ?_
      refine z_istore dX10_greatestPart_79 (by decide) (ls' := [.ref 48, zU, .ref 61, .int y3, .long y4, zU, .int (zmax y6 (M16.1 51 ((M1.1 50 (((y3 * (64 : Int32)) + y7)).toNatClampNeg)).toNatClampNeg)), .int y7, .int (M1.1 50 (((y3 * (64 : Int32)) + y7)).toNatClampNeg)]) rfl ?_
      refine z_weak [true, false, true, true, true, false, true, true, false] (ls' := [.ref 48, zU, .ref 61, .int y3, .long y4, zU, .int (zmax y6 (M16.1 51 ((M1.1 50 (((y3 * (64 : Int32)) + y7)).toNatClampNeg)).toNatClampNeg)), .int y7, zU]) rfl rfl ?_
      exact h18
theorem t_X10_greatestPart_81 {E : zEv} {D : Nat} {post : Int32 → zM → Prop} {px : String → zM → Prop} {M : zM}   {y3 : Int32} {y4 : Int64} {y6 : Int32} {y7 : Int32} (h : w_X10_greatestPart_21 E D post px y3 y4 y6 (y7 + (1 : Int32)) M) : w_X10_greatestPart_81 E D post px y3 y4 y6 y7 M := by
  show Z E jX10_greatestPart (D + 1) 0 (zQi post px) 81 0 [.ref 48, zU, .ref 61, .int y3, .long y4, zU, .int y6, .int y7, zU] [] M
  refine z_iinc dX10_greatestPart_81 rfl (by decide) (ls' := [.ref 48, zU, .ref 61, .int y3, .long y4, zU, .int y6, .int (y7 + (1 : Int32)), zU]) rfl ?_
  refine z_goto (tgt := 21) dX10_greatestPart_84 (by decide) ?_
  exact h
def w_X10_partsOf_13 (E : zEv) (D : Nat) (post : Int32 → zM → Prop) (px : String → zM → Prop)  (y3 : Int32) (y4 : Int32) (y5 : Int32) (M : zM) : Prop := Z E jX10_partsOf (D + 1) 0 (zQi post px) 13 0 [.ref 48, zU, .ref 61, .int y3, .int y4, .int y5] [] M
def w_X10_partsOf_42 (E : zEv) (D : Nat) (post : Int32 → zM → Prop) (px : String → zM → Prop)  (y3 : Int32) (y4 : Int32) (y5 : Int32) (M : zM) : Prop := Z E jX10_partsOf (D + 1) 0 (zQi post px) 42 0 [.ref 48, zU, .ref 61, .int y3, .int y4, .int y5] [] M
theorem e_X10_partsOf {E : zEv} {D : Nat} {post : Int32 → zM → Prop} {px : String → zM → Prop} {M : zM} {x3 : Int32}  (h : zCv E jX10_weigh D 0 [.ref 48, .ref 43, .ref 61, .int x3] M (fun M1 => w_X10_partsOf_13 E D post px x3 (0 : Int32) (0 : Int32) M1) px) : zCi E jX10_partsOf (D + 1) 0 [.ref 48, .ref 43, .ref 61, .int x3] M post px := by
  refine z_meth (by decide) (Nat.le_of_ble_eq_true rfl) ?_
  show Z E jX10_partsOf (D + 1) 0 (zQi post px) 0 0 [.ref 48, .ref 43, .ref 61, .int x3, zU, zU] [] M
  refine z_aload_n dX10_partsOf_0 rfl ?_
  refine z_aload_n dX10_partsOf_1 rfl ?_
  refine z_aload_n dX10_partsOf_2 rfl ?_
  refine z_iload_n dX10_partsOf_3 rfl ?_
  refine z_callVv (As := [.ref 43, .ref 61, .int x3]) (st := []) dX10_partsOf_4 zi_X10_77 rfl rfl zs_48 rfl rfl (Nat.le_of_ble_eq_true rfl) (by decide) (fun _ _ hx => hx) h ?_
  intro M1 h2
  refine z_iconst (v := (0 : Int32)) dX10_partsOf_7 rfl ?_
  refine z_istore dX10_partsOf_8 (by decide) (ls' := [.ref 48, .ref 43, .ref 61, .int x3, .int (0 : Int32), zU]) rfl ?_
  refine z_iconst (v := (0 : Int32)) dX10_partsOf_10 rfl ?_
  refine z_istore dX10_partsOf_11 (by decide) (ls' := [.ref 48, .ref 43, .ref 61, .int x3, .int (0 : Int32), .int (0 : Int32)]) rfl ?_
  refine z_weak [true, false, true, true, true, true] (ls' := [.ref 48, zU, .ref 61, .int x3, .int (0 : Int32), .int (0 : Int32)]) rfl rfl ?_
  exact h2
theorem t_X10_partsOf_13 {E : zEv} {D : Nat} {post : Int32 → zM → Prop} {px : String → zM → Prop} {M : zM}   {y3 : Int32} {y4 : Int32} {y5 : Int32} (h : zCi E jX3_worldCount D 0 [.ref 61] M (fun r3 M1 => ((r3 ≤ y5 → post y4 M1) ∧ (¬ r3 ≤ y5 → vp_in ((y3 * (64 : Int32)) + y5) 512 ∧ ((¬ (M1.1 50 (((y3 * (64 : Int32)) + y5)).toNatClampNeg) = y5 → w_X10_partsOf_42 E D post px y3 y4 y5 M1) ∧ ((M1.1 50 (((y3 * (64 : Int32)) + y5)).toNatClampNeg) = y5 → w_X10_partsOf_42 E D post px y3 (y4 + (1 : Int32)) y5 M1))))) px) : w_X10_partsOf_13 E D post px y3 y4 y5 M := by
  show Z E jX10_partsOf (D + 1) 0 (zQi post px) 13 0 [.ref 48, zU, .ref 61, .int y3, .int y4, .int y5] [] M
  refine z_iload dX10_partsOf_13 rfl ?_
  refine z_aload_n dX10_partsOf_15 rfl ?_
  refine z_callVi (As := []) (st := [.int y5]) dX10_partsOf_16 zi_X10_24 rfl rfl zs_61 rfl rfl (Nat.le_of_ble_eq_true rfl) (by decide) (fun _ _ hx => hx) h ?_
  intro r3 M1 h2
  refine z_icmp_ge (tgt := 48) dX10_partsOf_19 (by decide) (fun g4 => ?_) (fun g4 => ?_)
  · have h5 := h2.1 g4
    refine z_iload dX10_partsOf_48 rfl ?_
    exact z_iret dX10_partsOf_50 rfl rfl (by decide) h5
  · have h6 := h2.2 g4
    refine z_aload_n dX10_partsOf_22 rfl ?_
    refine z_getR dX10_partsOf_23 zg_X10_15 zs_48 rfl ?_
    refine z_iload_n dX10_partsOf_26 rfl ?_
    refine z_bipush (v := (64 : Int32)) dX10_partsOf_27 rfl ?_
    refine z_imul dX10_partsOf_29 ?_
    refine z_iload dX10_partsOf_30 rfl ?_
    refine z_iadd dX10_partsOf_32 ?_
    obtain ⟨g8, h7⟩ := h6
    refine z_iald dX10_partsOf_33 zs_50 g8 ?_
    refine z_iload dX10_partsOf_34 rfl ?_
    refine z_icmp_ne (tgt := 42) dX10_partsOf_36 (by decide) (fun g9 => ?_) (fun g9 => ?_)
    · have h10 := h7.1 g9
      exact h10
    · have h11 := h7.2 g9
      refine z_iinc dX10_partsOf_39 rfl (by decide) (ls' := [.ref 48, zU, .ref 61, .int y3, .int (y4 + (1 : Int32)), .int y5]) rfl ?_
      exact h11
theorem t_X10_partsOf_42 {E : zEv} {D : Nat} {post : Int32 → zM → Prop} {px : String → zM → Prop} {M : zM}   {y3 : Int32} {y4 : Int32} {y5 : Int32} (h : w_X10_partsOf_13 E D post px y3 y4 (y5 + (1 : Int32)) M) : w_X10_partsOf_42 E D post px y3 y4 y5 M := by
  show Z E jX10_partsOf (D + 1) 0 (zQi post px) 42 0 [.ref 48, zU, .ref 61, .int y3, .int y4, .int y5] [] M
  refine z_iinc dX10_partsOf_42 rfl (by decide) (ls' := [.ref 48, zU, .ref 61, .int y3, .int y4, .int (y5 + (1 : Int32))]) rfl ?_
  refine z_goto (tgt := 13) dX10_partsOf_45 (by decide) ?_
  exact h
def w_X10_partedBy_6 (E : zEv) (D : Nat) (post : Int32 → zM → Prop) (px : String → zM → Prop)  (y1 : Int32) (y2 : Int32) (y3 : Int32) (y4 : Int32) (y5 : Int32) (M : zM) : Prop := Z E jX10_partedBy D 0 (zQi post px) 6 0 [.ref 48, .int y1, .int y2, .int y3, .int y4, .int y5] [] M
def w_X10_partedBy_48 (E : zEv) (D : Nat) (post : Int32 → zM → Prop) (px : String → zM → Prop)  (y1 : Int32) (y2 : Int32) (y3 : Int32) (y4 : Int32) (y5 : Int32) (M : zM) : Prop := Z E jX10_partedBy D 0 (zQi post px) 48 0 [.ref 48, .int y1, .int y2, .int y3, .int y4, .int y5] [] M
theorem e_X10_partedBy {E : zEv} {D : Nat} {post : Int32 → zM → Prop} {px : String → zM → Prop} {M : zM} {x1 : Int32} {x2 : Int32} {x3 : Int32}  (h : w_X10_partedBy_6 E D post px x1 x2 x3 (0 : Int32) (0 : Int32) M) : zCi E jX10_partedBy D 0 [.ref 48, .int x1, .int x2, .int x3] M post px := by
  refine z_meth (by decide) (Nat.le_of_ble_eq_true rfl) ?_
  show Z E jX10_partedBy D 0 (zQi post px) 0 0 [.ref 48, .int x1, .int x2, .int x3, zU, zU] [] M
  refine z_iconst (v := (0 : Int32)) dX10_partedBy_0 rfl ?_
  refine z_istore dX10_partedBy_1 (by decide) (ls' := [.ref 48, .int x1, .int x2, .int x3, .int (0 : Int32), zU]) rfl ?_
  refine z_iconst (v := (0 : Int32)) dX10_partedBy_3 rfl ?_
  refine z_istore dX10_partedBy_4 (by decide) (ls' := [.ref 48, .int x1, .int x2, .int x3, .int (0 : Int32), .int (0 : Int32)]) rfl ?_
  exact h
theorem t_X10_partedBy_6 {E : zEv} {D : Nat} {post : Int32 → zM → Prop} {px : String → zM → Prop} {M : zM}   {y1 : Int32} {y2 : Int32} {y3 : Int32} {y4 : Int32} {y5 : Int32} (h : ((y1 ≤ y5 → post y4 M) ∧ (¬ y1 ≤ y5 → vp_in ((y5 * (64 : Int32)) + y2) 512 ∧ vp_in ((y5 * (64 : Int32)) + y3) 512 ∧ (((M.1 50 (((y5 * (64 : Int32)) + y2)).toNatClampNeg) = (M.1 50 (((y5 * (64 : Int32)) + y3)).toNatClampNeg) → w_X10_partedBy_48 E D post px y1 y2 y3 y4 y5 M) ∧ (¬ (M.1 50 (((y5 * (64 : Int32)) + y2)).toNatClampNeg) = (M.1 50 (((y5 * (64 : Int32)) + y3)).toNatClampNeg) → w_X10_partedBy_48 E D post px y1 y2 y3 (y4 ||| ((1 : Int32) <<< (y5 &&& 31))) y5 M))))) : w_X10_partedBy_6 E D post px y1 y2 y3 y4 y5 M := by
  show Z E jX10_partedBy D 0 (zQi post px) 6 0 [.ref 48, .int y1, .int y2, .int y3, .int y4, .int y5] [] M
  refine z_iload dX10_partedBy_6 rfl ?_
  refine z_iload_n dX10_partedBy_8 rfl ?_
  refine z_icmp_ge (tgt := 54) dX10_partedBy_9 (by decide) (fun g1 => ?_) (fun g1 => ?_)
  · have h2 := h.1 g1
    refine z_iload dX10_partedBy_54 rfl ?_
    exact z_iret dX10_partedBy_56 rfl rfl (by decide) h2
  · have h3 := h.2 g1
    refine z_aload_n dX10_partedBy_12 rfl ?_
    refine z_getR dX10_partedBy_13 zg_X10_15 zs_48 rfl ?_
    refine z_iload dX10_partedBy_16 rfl ?_
    refine z_bipush (v := (64 : Int32)) dX10_partedBy_18 rfl ?_
    refine z_imul dX10_partedBy_20 ?_
    refine z_iload_n dX10_partedBy_21 rfl ?_
    refine z_iadd dX10_partedBy_22 ?_
    obtain ⟨g5, h4⟩ := h3
    refine z_iald dX10_partedBy_23 zs_50 g5 ?_
    refine z_aload_n dX10_partedBy_24 rfl ?_
    refine z_getR dX10_partedBy_25 zg_X10_15 zs_48 rfl ?_
    refine z_iload dX10_partedBy_28 rfl ?_
    refine z_bipush (v := (64 : Int32)) dX10_partedBy_30 rfl ?_
    refine z_imul dX10_partedBy_32 ?_
    refine z_iload_n dX10_partedBy_33 rfl ?_
    refine z_iadd dX10_partedBy_34 ?_
    obtain ⟨g7, h6⟩ := h4
    refine z_iald dX10_partedBy_35 zs_50 g7 ?_
    refine z_icmp_eq (tgt := 48) dX10_partedBy_36 (by decide) (fun g8 => ?_) (fun g8 => ?_)
    · have h9 := h6.1 g8
      exact h9
    · have h10 := h6.2 g8
      refine z_iload dX10_partedBy_39 rfl ?_
      refine z_iconst (v := (1 : Int32)) dX10_partedBy_41 rfl ?_
      refine z_iload dX10_partedBy_42 rfl ?_
      refine z_ishl dX10_partedBy_44 ?_
      refine z_ior dX10_partedBy_45 ?_
      refine z_istore dX10_partedBy_46 (by decide) (ls' := [.ref 48, .int y1, .int y2, .int y3, .int (y4 ||| ((1 : Int32) <<< (y5 &&& 31))), .int y5]) rfl ?_
      exact h10
theorem t_X10_partedBy_48 {E : zEv} {D : Nat} {post : Int32 → zM → Prop} {px : String → zM → Prop} {M : zM}   {y1 : Int32} {y2 : Int32} {y3 : Int32} {y4 : Int32} {y5 : Int32} (h : w_X10_partedBy_6 E D post px y1 y2 y3 y4 (y5 + (1 : Int32)) M) : w_X10_partedBy_48 E D post px y1 y2 y3 y4 y5 M := by
  show Z E jX10_partedBy D 0 (zQi post px) 48 0 [.ref 48, .int y1, .int y2, .int y3, .int y4, .int y5] [] M
  refine z_iinc dX10_partedBy_48 rfl (by decide) (ls' := [.ref 48, .int y1, .int y2, .int y3, .int y4, .int (y5 + (1 : Int32))]) rfl ?_
  refine z_goto (tgt := 6) dX10_partedBy_51 (by decide) ?_
  exact h
def w_X10_hidden_2 (E : zEv) (D : Nat) (post : Int32 → zM → Prop) (px : String → zM → Prop)  (y3 : Int32) (M : zM) : Prop := Z E jX10_hidden (D + 1) 0 (zQi post px) 2 0 [.ref 48, .ref 43, .ref 61, .int y3, zU, zU] [] M
def w_X10_hidden_28 (E : zEv) (D : Nat) (post : Int32 → zM → Prop) (px : String → zM → Prop)  (y3 : Int32) (y4 : Int32) (M : zM) : Prop := Z E jX10_hidden (D + 1) 0 (zQi post px) 28 0 [.ref 48, zU, .ref 61, .int y3, .int y4, zU] [] M
def w_X10_hidden_43 (E : zEv) (D : Nat) (post : Int32 → zM → Prop) (px : String → zM → Prop)  (y3 : Int32) (y4 : Int32) (y5 : Int32) (M : zM) : Prop := Z E jX10_hidden (D + 1) 0 (zQi post px) 43 0 [.ref 48, zU, .ref 61, .int y3, .int y4, .int y5] [] M
def w_X10_hidden_87 (E : zEv) (D : Nat) (post : Int32 → zM → Prop) (px : String → zM → Prop)  (y3 : Int32) (y4 : Int32) (y5 : Int32) (M : zM) : Prop := Z E jX10_hidden (D + 1) 0 (zQi post px) 87 0 [.ref 48, zU, .ref 61, .int y3, .int y4, .int y5] [] M
theorem e_X10_hidden {E : zEv} {D : Nat} {post : Int32 → zM → Prop} {px : String → zM → Prop} {M : zM}   (h : w_X10_hidden_2 E D post px (0 : Int32) M) : zCi E jX10_hidden (D + 1) 0 [.ref 48, .ref 43, .ref 61] M post px := by
  refine z_meth (by decide) (Nat.le_of_ble_eq_true rfl) ?_
  show Z E jX10_hidden (D + 1) 0 (zQi post px) 0 0 [.ref 48, .ref 43, .ref 61, zU, zU, zU] [] M
  refine z_iconst (v := (0 : Int32)) dX10_hidden_0 rfl ?_
  refine z_istore_n dX10_hidden_1 (by decide) (ls' := [.ref 48, .ref 43, .ref 61, .int (0 : Int32), zU, zU]) rfl ?_
  exact h
theorem t_X10_hidden_2 {E : zEv} {D : Nat} {post : Int32 → zM → Prop} {px : String → zM → Prop} {M : zM}   {y3 : Int32} (h : (((M.1 61 7) ≤ y3 → w_X10_hidden_28 E D post px (0 : Int32) (0 : Int32) M) ∧ (¬ (M.1 61 7) ≤ y3 → zCv E jX10_weigh D 0 [.ref 48, .ref 43, .ref 61, .int y3] M (fun M4 => w_X10_hidden_2 E D post px (y3 + (1 : Int32)) M4) px))) : w_X10_hidden_2 E D post px y3 M := by
  show Z E jX10_hidden (D + 1) 0 (zQi post px) 2 0 [.ref 48, .ref 43, .ref 61, .int y3, zU, zU] [] M
  refine z_iload_n dX10_hidden_2 rfl ?_
  refine z_aload_n dX10_hidden_3 rfl ?_
  refine z_getI dX10_hidden_4 zg_X10_68 zs_61 rfl ?_
  refine z_icmp_ge (tgt := 23) dX10_hidden_7 (by decide) (fun g1 => ?_) (fun g1 => ?_)
  · have h2 := h.1 g1
    refine z_iconst (v := (0 : Int32)) dX10_hidden_23 rfl ?_
    refine z_istore_n dX10_hidden_24 (by decide) (ls' := [.ref 48, .ref 43, .ref 61, .int (0 : Int32), zU, zU]) rfl ?_
    refine z_iconst (v := (0 : Int32)) dX10_hidden_25 rfl ?_
    refine z_istore dX10_hidden_26 (by decide) (ls' := [.ref 48, .ref 43, .ref 61, .int (0 : Int32), .int (0 : Int32), zU]) rfl ?_
    refine z_weak [true, false, true, true, true, false] (ls' := [.ref 48, zU, .ref 61, .int (0 : Int32), .int (0 : Int32), zU]) rfl rfl ?_
    exact h2
  · have h3 := h.2 g1
    refine z_aload_n dX10_hidden_10 rfl ?_
    refine z_aload_n dX10_hidden_11 rfl ?_
    refine z_aload_n dX10_hidden_12 rfl ?_
    refine z_iload_n dX10_hidden_13 rfl ?_
    refine z_callVv (As := [.ref 43, .ref 61, .int y3]) (st := []) dX10_hidden_14 zi_X10_77 rfl rfl zs_48 rfl rfl (Nat.le_of_ble_eq_true rfl) (by decide) (fun _ _ hx => hx) h3 ?_
    intro M4 h5
    refine z_iinc dX10_hidden_17 rfl (by decide) (ls' := [.ref 48, .ref 43, .ref 61, .int (y3 + (1 : Int32)), zU, zU]) rfl ?_
    refine z_goto (tgt := 2) dX10_hidden_20 (by decide) ?_
    exact h5
theorem t_X10_hidden_28 {E : zEv} {D : Nat} {post : Int32 → zM → Prop} {px : String → zM → Prop} {M : zM}   {y3 : Int32} {y4 : Int32} (h : zCi E jX3_worldCount D 0 [.ref 61] M (fun r3 M1 => ((r3 ≤ y4 → post y3 M1) ∧ (¬ r3 ≤ y4 → w_X10_hidden_43 E D post px y3 y4 (y4 + (1 : Int32)) M1))) px) : w_X10_hidden_28 E D post px y3 y4 M := by
  show Z E jX10_hidden (D + 1) 0 (zQi post px) 28 0 [.ref 48, zU, .ref 61, .int y3, .int y4, zU] [] M
  refine z_iload dX10_hidden_28 rfl ?_
  refine z_aload_n dX10_hidden_30 rfl ?_
  refine z_callVi (As := []) (st := [.int y4]) dX10_hidden_31 zi_X10_24 rfl rfl zs_61 rfl rfl (Nat.le_of_ble_eq_true rfl) (by decide) (fun _ _ hx => hx) h ?_
  intro r3 M1 h2
  refine z_icmp_ge (tgt := 99) dX10_hidden_34 (by decide) (fun g4 => ?_) (fun g4 => ?_)
  · have h5 := h2.1 g4
    refine z_iload_n dX10_hidden_99 rfl ?_
    exact z_iret dX10_hidden_100 rfl rfl (by decide) h5
  · have h6 := h2.2 g4
    refine z_iload dX10_hidden_37 rfl ?_
    refine z_iconst (v := (1 : Int32)) dX10_hidden_39 rfl ?_
    refine z_iadd dX10_hidden_40 ?_
    refine z_istore dX10_hidden_41 (by decide) (ls' := [.ref 48, zU, .ref 61, .int y3, .int y4, .int (y4 + (1 : Int32))]) rfl ?_
    exact h6
theorem t_X10_hidden_43 {E : zEv} {D : Nat} {post : Int32 → zM → Prop} {px : String → zM → Prop} {M : zM}   {y3 : Int32} {y4 : Int32} {y5 : Int32} (h : zCi E jX3_worldCount D 0 [.ref 61] M (fun r3 M1 => ((r3 ≤ y5 → w_X10_hidden_28 E D post px y3 (y4 + (1 : Int32)) M1) ∧ (¬ r3 ≤ y5 → ((((y4 ^^^ y5) &&& (y3 ^^^ (-1 : Int32))) = 0 → w_X10_hidden_87 E D post px y3 y4 y5 M1) ∧ (¬ ((y4 ^^^ y5) &&& (y3 ^^^ (-1 : Int32))) = 0 → zCi E jX10_partedBy D 0 [.ref 48, .int (M1.1 61 7), .int y4, .int y5] M1 (fun r12 M10 => ((¬ r12 = 0 → w_X10_hidden_87 E D post px y3 y4 y5 M10) ∧ (r12 = 0 → w_X10_hidden_87 E D post px (y3 ||| (y4 ^^^ y5)) y4 y5 M10))) px))))) px) : w_X10_hidden_43 E D post px y3 y4 y5 M := by
  show Z E jX10_hidden (D + 1) 0 (zQi post px) 43 0 [.ref 48, zU, .ref 61, .int y3, .int y4, .int y5] [] M
  refine z_iload dX10_hidden_43 rfl ?_
  refine z_aload_n dX10_hidden_45 rfl ?_
  refine z_callVi (As := []) (st := [.int y5]) dX10_hidden_46 zi_X10_24 rfl rfl zs_61 rfl rfl (Nat.le_of_ble_eq_true rfl) (by decide) (fun _ _ hx => hx) h ?_
  intro r3 M1 h2
  refine z_icmp_ge (tgt := 93) dX10_hidden_49 (by decide) (fun g4 => ?_) (fun g4 => ?_)
  · have h5 := h2.1 g4
    refine z_iinc dX10_hidden_93 rfl (by decide) (ls' := [.ref 48, zU, .ref 61, .int y3, .int (y4 + (1 : Int32)), .int y5]) rfl ?_
    refine z_goto (tgt := 28) dX10_hidden_96 (by decide) ?_
    refine z_weak [true, false, true, true, true, false] (ls' := [.ref 48, zU, .ref 61, .int y3, .int (y4 + (1 : Int32)), zU]) rfl rfl ?_
    exact h5
  · have h6 := h2.2 g4
    refine z_iload dX10_hidden_52 rfl ?_
    refine z_iload dX10_hidden_54 rfl ?_
    refine z_ixor dX10_hidden_56 ?_
    refine z_iload_n dX10_hidden_57 rfl ?_
    refine z_iconst (v := (-1 : Int32)) dX10_hidden_58 rfl ?_
    refine z_ixor dX10_hidden_59 ?_
    refine z_iand dX10_hidden_60 ?_
    refine z_if_eq (tgt := 87) dX10_hidden_61 (by decide) (fun g7 => ?_) (fun g7 => ?_)
    · have h8 := h6.1 g7
      exact h8
    · have h9 := h6.2 g7
      refine z_aload_n dX10_hidden_64 rfl ?_
      refine z_aload_n dX10_hidden_65 rfl ?_
      refine z_getI dX10_hidden_66 zg_X10_68 zs_61 rfl ?_
      refine z_iload dX10_hidden_69 rfl ?_
      refine z_iload dX10_hidden_71 rfl ?_
      refine z_callVi (As := [.int (M1.1 61 7), .int y4, .int y5]) (st := []) dX10_hidden_73 zi_X10_96 rfl rfl zs_48 rfl rfl (Nat.le_of_ble_eq_true rfl) (by decide) (fun _ _ hx => hx) h9 ?_
      intro r12 M10 h11
      refine z_if_ne (tgt := 87) dX10_hidden_76 (by decide) (fun g13 => ?_) (fun g13 => ?_)
      · have h14 := h11.1 g13
        exact h14
      · have h15 := h11.2 g13
        refine z_iload_n dX10_hidden_79 rfl ?_
        refine z_iload dX10_hidden_80 rfl ?_
        refine z_iload dX10_hidden_82 rfl ?_
        refine z_ixor dX10_hidden_84 ?_
        refine z_ior dX10_hidden_85 ?_
        refine z_istore_n dX10_hidden_86 (by decide) (ls' := [.ref 48, zU, .ref 61, .int (y3 ||| (y4 ^^^ y5)), .int y4, .int y5]) rfl ?_
        exact h15
theorem t_X10_hidden_87 {E : zEv} {D : Nat} {post : Int32 → zM → Prop} {px : String → zM → Prop} {M : zM}   {y3 : Int32} {y4 : Int32} {y5 : Int32} (h : w_X10_hidden_43 E D post px y3 y4 (y5 + (1 : Int32)) M) : w_X10_hidden_87 E D post px y3 y4 y5 M := by
  show Z E jX10_hidden (D + 1) 0 (zQi post px) 87 0 [.ref 48, zU, .ref 61, .int y3, .int y4, .int y5] [] M
  refine z_iinc dX10_hidden_87 rfl (by decide) (ls' := [.ref 48, zU, .ref 61, .int y3, .int y4, .int (y5 + (1 : Int32))]) rfl ?_
  refine z_goto (tgt := 43) dX10_hidden_90 (by decide) ?_
  exact h
def w_X10_knownBy_3 (E : zEv) (D : Nat) (post : Int32 → zM → Prop) (px : String → zM → Prop)  (y3 : Int32) (y4 : Int32) (M : zM) : Prop := Z E jX10_knownBy (D + 1) 0 (zQi post px) 3 0 [.ref 48, .ref 43, .ref 61, .int y3, .int y4, zU, zU, zU] [] M
def w_X10_knownBy_48 (E : zEv) (D : Nat) (post : Int32 → zM → Prop) (px : String → zM → Prop)  (y4 : Int32) (y5 : Int32) (y6 : Int32) (M : zM) : Prop := Z E jX10_knownBy (D + 1) 0 (zQi post px) 48 0 [.ref 48, zU, zU, zU, .int y4, .int y5, .int y6, zU] [] M
def w_X10_knownBy_74 (E : zEv) (D : Nat) (post : Int32 → zM → Prop) (px : String → zM → Prop)  (y4 : Int32) (y5 : Int32) (y6 : Int32) (M : zM) : Prop := Z E jX10_knownBy (D + 1) 0 (zQi post px) 74 0 [.ref 48, zU, zU, zU, .int y4, .int y5, .int y6, zU] [] M
def w_X10_knownBy_79 (E : zEv) (D : Nat) (post : Int32 → zM → Prop) (px : String → zM → Prop)  (y4 : Int32) (y5 : Int32) (y6 : Int32) (s0 : Int32) (M : zM) : Prop := Z E jX10_knownBy (D + 1) 0 (zQi post px) 79 0 [.ref 48, zU, zU, zU, .int y4, .int y5, .int y6, zU] [.int s0] M
def w_X10_knownBy_105 (E : zEv) (D : Nat) (post : Int32 → zM → Prop) (px : String → zM → Prop)  (y4 : Int32) (y5 : Int32) (y6 : Int32) (M : zM) : Prop := Z E jX10_knownBy (D + 1) 0 (zQi post px) 105 0 [.ref 48, zU, zU, zU, .int y4, .int y5, .int y6, zU] [] M
theorem e_X10_knownBy {E : zEv} {D : Nat} {post : Int32 → zM → Prop} {px : String → zM → Prop} {M : zM} {x3 : Int32}  (h : w_X10_knownBy_3 E D post px x3 (0 : Int32) M) : zCi E jX10_knownBy (D + 1) 0 [.ref 48, .ref 43, .ref 61, .int x3] M post px := by
  refine z_meth (by decide) (Nat.le_of_ble_eq_true rfl) ?_
  show Z E jX10_knownBy (D + 1) 0 (zQi post px) 0 0 [.ref 48, .ref 43, .ref 61, .int x3, zU, zU, zU, zU] [] M
  refine z_iconst (v := (0 : Int32)) dX10_knownBy_0 rfl ?_
  refine z_istore dX10_knownBy_1 (by decide) (ls' := [.ref 48, .ref 43, .ref 61, .int x3, .int (0 : Int32), zU, zU, zU]) rfl ?_
  exact h
theorem t_X10_knownBy_3 {E : zEv} {D : Nat} {post : Int32 → zM → Prop} {px : String → zM → Prop} {M : zM}   {y3 : Int32} {y4 : Int32} (h : (((M.1 61 7) ≤ y4 → zCv E jX10_markUnparted D 0 [.ref 48, .ref 61, .int y3] M (fun M4 => w_X10_knownBy_48 E D post px (((1 : Int32) <<< ((M4.1 61 7) &&& 31)) - (1 : Int32)) (-1 : Int32) (0 : Int32) M4) px) ∧ (¬ (M.1 61 7) ≤ y4 → zCv E jX10_weigh D 0 [.ref 48, .ref 43, .ref 61, .int y4] M (fun M6 => w_X10_knownBy_3 E D post px y3 (y4 + (1 : Int32)) M6) px))) : w_X10_knownBy_3 E D post px y3 y4 M := by
  show Z E jX10_knownBy (D + 1) 0 (zQi post px) 3 0 [.ref 48, .ref 43, .ref 61, .int y3, .int y4, zU, zU, zU] [] M
  refine z_iload dX10_knownBy_3 rfl ?_
  refine z_aload_n dX10_knownBy_5 rfl ?_
  refine z_getI dX10_knownBy_6 zg_X10_68 zs_61 rfl ?_
  refine z_icmp_ge (tgt := 26) dX10_knownBy_9 (by decide) (fun g1 => ?_) (fun g1 => ?_)
  · have h2 := h.1 g1
    refine z_aload_n dX10_knownBy_26 rfl ?_
    refine z_aload_n dX10_knownBy_27 rfl ?_
    refine z_iload_n dX10_knownBy_28 rfl ?_
    refine z_callVv (As := [.ref 61, .int y3]) (st := []) dX10_knownBy_29 zi_X10_99 rfl rfl zs_48 rfl rfl (Nat.le_of_ble_eq_true rfl) (by decide) (fun _ _ hx => hx) h2 ?_
    intro M4 h5
    refine z_iconst (v := (1 : Int32)) dX10_knownBy_32 rfl ?_
    refine z_aload_n dX10_knownBy_33 rfl ?_
    refine z_getI dX10_knownBy_34 zg_X10_68 zs_61 rfl ?_
    refine z_ishl dX10_knownBy_37 ?_
    refine z_iconst (v := (1 : Int32)) dX10_knownBy_38 rfl ?_
    refine z_isub dX10_knownBy_39 ?_
    refine z_istore dX10_knownBy_40 (by decide) (ls' := [.ref 48, .ref 43, .ref 61, .int y3, .int (((1 : Int32) <<< ((M4.1 61 7) &&& 31)) - (1 : Int32)), zU, zU, zU]) rfl ?_
    refine z_iconst (v := (-1 : Int32)) dX10_knownBy_42 rfl ?_
    refine z_istore dX10_knownBy_43 (by decide) (ls' := [.ref 48, .ref 43, .ref 61, .int y3, .int (((1 : Int32) <<< ((M4.1 61 7) &&& 31)) - (1 : Int32)), .int (-1 : Int32), zU, zU]) rfl ?_
    refine z_iconst (v := (0 : Int32)) dX10_knownBy_45 rfl ?_
    refine z_istore dX10_knownBy_46 (by decide) (ls' := [.ref 48, .ref 43, .ref 61, .int y3, .int (((1 : Int32) <<< ((M4.1 61 7) &&& 31)) - (1 : Int32)), .int (-1 : Int32), .int (0 : Int32), zU]) rfl ?_
    refine z_weak [true, false, false, false, true, true, true, false] (ls' := [.ref 48, zU, zU, zU, .int (((1 : Int32) <<< ((M4.1 61 7) &&& 31)) - (1 : Int32)), .int (-1 : Int32), .int (0 : Int32), zU]) rfl rfl ?_
    exact h5
  · have h3 := h.2 g1
    refine z_aload_n dX10_knownBy_12 rfl ?_
    refine z_aload_n dX10_knownBy_13 rfl ?_
    refine z_aload_n dX10_knownBy_14 rfl ?_
    refine z_iload dX10_knownBy_15 rfl ?_
    refine z_callVv (As := [.ref 43, .ref 61, .int y4]) (st := []) dX10_knownBy_17 zi_X10_77 rfl rfl zs_48 rfl rfl (Nat.le_of_ble_eq_true rfl) (by decide) (fun _ _ hx => hx) h3 ?_
    intro M6 h7
    refine z_iinc dX10_knownBy_20 rfl (by decide) (ls' := [.ref 48, .ref 43, .ref 61, .int y3, .int (y4 + (1 : Int32)), zU, zU, zU]) rfl ?_
    refine z_goto (tgt := 3) dX10_knownBy_23 (by decide) ?_
    exact h7
theorem t_X10_knownBy_48 {E : zEv} {D : Nat} {post : Int32 → zM → Prop} {px : String → zM → Prop} {M : zM}   {y4 : Int32} {y5 : Int32} {y6 : Int32} (h : ((y4 < y6 → post y5 M) ∧ (¬ y4 < y6 → ((y5 = (-1 : Int32) → w_X10_knownBy_74 E D post px y4 y5 y6 M) ∧ (¬ y5 = (-1 : Int32) → zCi E jJ6_bitCount_0f7a4 D 0 [.int y6] M (fun r9 M7 => zCi E jJ6_bitCount_0f7a4 D 0 [.int y5] M7 (fun r12 M10 => ((r12 ≤ r9 → w_X10_knownBy_79 E D post px y4 y5 y6 (0 : Int32) M10) ∧ (¬ r12 ≤ r9 → w_X10_knownBy_74 E D post px y4 y5 y6 M10))) px) px))))) : w_X10_knownBy_48 E D post px y4 y5 y6 M := by
  show Z E jX10_knownBy (D + 1) 0 (zQi post px) 48 0 [.ref 48, zU, zU, zU, .int y4, .int y5, .int y6, zU] [] M
  refine z_iload dX10_knownBy_48 rfl ?_
  refine z_iload dX10_knownBy_50 rfl ?_
  refine z_icmp_gt (tgt := 111) dX10_knownBy_52 (by decide) (fun g1 => ?_) (fun g1 => ?_)
  · have h2 := h.1 g1
    refine z_iload dX10_knownBy_111 rfl ?_
    exact z_iret dX10_knownBy_113 rfl rfl (by decide) h2
  · have h3 := h.2 g1
    refine z_iload dX10_knownBy_55 rfl ?_
    refine z_iconst (v := (-1 : Int32)) dX10_knownBy_57 rfl ?_
    refine z_icmp_eq (tgt := 74) dX10_knownBy_58 (by decide) (fun g4 => ?_) (fun g4 => ?_)
    · have h5 := h3.1 g4
      exact h5
    · have h6 := h3.2 g4
      refine z_iload dX10_knownBy_61 rfl ?_
      refine z_callSi (As := [.int y6]) (st := []) dX10_knownBy_63 zi_X10_103 rfl rfl (Nat.le_of_ble_eq_true rfl) (by decide) (fun _ _ hx => hx) h6 ?_
      intro r9 M7 h8
      refine z_iload dX10_knownBy_66 rfl ?_
      refine z_callSi (As := [.int y5]) (st := [.int r9]) dX10_knownBy_68 zi_X10_103 rfl rfl (Nat.le_of_ble_eq_true rfl) (by decide) (fun _ _ hx => hx) h8 ?_
      intro r12 M10 h11
      refine z_icmp_ge (tgt := 78) dX10_knownBy_71 (by decide) (fun g13 => ?_) (fun g13 => ?_)
      · have h14 := h11.1 g13
        refine z_iconst (v := (0 : Int32)) dX10_knownBy_78 rfl ?_
        exact h14
      · have h15 := h11.2 g13
        exact h15
theorem t_X10_knownBy_74 {E : zEv} {D : Nat} {post : Int32 → zM → Prop} {px : String → zM → Prop} {M : zM}   {y4 : Int32} {y5 : Int32} {y6 : Int32} (h : w_X10_knownBy_79 E D post px y4 y5 y6 (1 : Int32) M) : w_X10_knownBy_74 E D post px y4 y5 y6 M := by
  show Z E jX10_knownBy (D + 1) 0 (zQi post px) 74 0 [.ref 48, zU, zU, zU, .int y4, .int y5, .int y6, zU] [] M
  refine z_iconst (v := (1 : Int32)) dX10_knownBy_74 rfl ?_
  refine z_goto (tgt := 79) dX10_knownBy_75 (by decide) ?_
  exact h
theorem t_X10_knownBy_79 {E : zEv} {D : Nat} {post : Int32 → zM → Prop} {px : String → zM → Prop} {M : zM}   {y4 : Int32} {y5 : Int32} {y6 : Int32} {s0 : Int32} (h : ((s0 = 0 → w_X10_knownBy_105 E D post px y4 y5 y6 M) ∧ (¬ s0 = 0 → vp_in (y4 &&& (y6 ^^^ (-1 : Int32))) 256 ∧ ((¬ (M.1 52 ((y4 &&& (y6 ^^^ (-1 : Int32)))).toNatClampNeg) = 0 → w_X10_knownBy_105 E D post px y4 y5 y6 M) ∧ ((M.1 52 ((y4 &&& (y6 ^^^ (-1 : Int32)))).toNatClampNeg) = 0 → w_X10_knownBy_105 E D post px y4 y6 y6 M))))) : w_X10_knownBy_79 E D post px y4 y5 y6 s0 M := by
  show Z E jX10_knownBy (D + 1) 0 (zQi post px) 79 0 [.ref 48, zU, zU, zU, .int y4, .int y5, .int y6, zU] [.int s0] M
  refine z_istore dX10_knownBy_79 (by decide) (ls' := [.ref 48, zU, zU, zU, .int y4, .int y5, .int y6, .int s0]) rfl ?_
  refine z_iload dX10_knownBy_81 rfl ?_
  refine z_if_eq (tgt := 105) dX10_knownBy_83 (by decide) (fun g1 => ?_) (fun g1 => ?_)
  · have h2 := h.1 g1
    refine z_weak [true, false, false, false, true, true, true, false] (ls' := [.ref 48, zU, zU, zU, .int y4, .int y5, .int y6, zU]) rfl rfl ?_
    exact h2
  · have h3 := h.2 g1
    refine z_aload_n dX10_knownBy_86 rfl ?_
    refine z_getR dX10_knownBy_87 zg_X10_21 zs_48 rfl ?_
    refine z_iload dX10_knownBy_90 rfl ?_
    refine z_iload dX10_knownBy_92 rfl ?_
    refine z_iconst (v := (-1 : Int32)) dX10_knownBy_94 rfl ?_
    refine z_ixor dX10_knownBy_95 ?_
    refine z_iand dX10_knownBy_96 ?_
    obtain ⟨g5, h4⟩ := h3
    refine z_iald dX10_knownBy_97 zs_52 g5 ?_
    refine z_if_ne (tgt := 105) dX10_knownBy_98 (by decide) (fun g6 => ?_) (fun g6 => ?_)
    · have h7 := h4.1 g6
      refine z_weak [true, false, false, false, true, true, true, false] (ls' := [.ref 48, zU, zU, zU, .int y4, .int y5, .int y6, zU]) rfl rfl ?_
      exact h7
    · have h8 := h4.2 g6
      refine z_iload dX10_knownBy_101 rfl ?_
      refine z_istore dX10_knownBy_103 (by decide) (ls' := [.ref 48, zU, zU, zU, .int y4, .int y6, .int y6, .int s0]) rfl ?_
      refine z_weak [true, false, false, false, true, true, true, false] (ls' := [.ref 48, zU, zU, zU, .int y4, .int y6, .int y6, zU]) rfl rfl ?_
      exact h8
theorem t_X10_knownBy_105 {E : zEv} {D : Nat} {post : Int32 → zM → Prop} {px : String → zM → Prop} {M : zM}   {y4 : Int32} {y5 : Int32} {y6 : Int32} (h : w_X10_knownBy_48 E D post px y4 y5 (y6 + (1 : Int32)) M) : w_X10_knownBy_105 E D post px y4 y5 y6 M := by
  show Z E jX10_knownBy (D + 1) 0 (zQi post px) 105 0 [.ref 48, zU, zU, zU, .int y4, .int y5, .int y6, zU] [] M
  refine z_iinc dX10_knownBy_105 rfl (by decide) (ls' := [.ref 48, zU, zU, zU, .int y4, .int y5, .int (y6 + (1 : Int32)), zU]) rfl ?_
  refine z_goto (tgt := 48) dX10_knownBy_108 (by decide) ?_
  exact h
def w_X10_markUnparted_10 (E : zEv) (D : Nat) (post : zM → Prop) (px : String → zM → Prop)  (y2 : Int32) (y3 : Int32) (M : zM) : Prop := Z E jX10_markUnparted (D + 1) 0 (zQv post px) 10 0 [.ref 48, .ref 61, .int y2, .int y3, zU] [] M
def w_X10_markUnparted_74 (E : zEv) (D : Nat) (post : zM → Prop) (px : String → zM → Prop)  (y3 : Int32) (M : zM) : Prop := Z E jX10_markUnparted (D + 1) 0 (zQv post px) 74 0 [.ref 48, .ref 61, zU, .int y3, zU] [] M
def w_X10_markUnparted_23 (E : zEv) (D : Nat) (post : zM → Prop) (px : String → zM → Prop)  (y2 : Int32) (y3 : Int32) (y4 : Int32) (M : zM) : Prop := Z E jX10_markUnparted (D + 1) 0 (zQv post px) 23 0 [.ref 48, .ref 61, .int y2, .int y3, .int y4] [] M
def w_X10_markUnparted_85 (E : zEv) (D : Nat) (post : zM → Prop) (px : String → zM → Prop)  (y3 : Int32) (y4 : Int32) (M : zM) : Prop := Z E jX10_markUnparted (D + 1) 0 (zQv post px) 85 0 [.ref 48, .ref 61, zU, .int y3, .int y4] [] M
def w_X10_markUnparted_60 (E : zEv) (D : Nat) (post : zM → Prop) (px : String → zM → Prop)  (y2 : Int32) (y3 : Int32) (y4 : Int32) (M : zM) : Prop := Z E jX10_markUnparted (D + 1) 0 (zQv post px) 60 0 [.ref 48, .ref 61, .int y2, .int y3, .int y4] [] M
def w_X10_markUnparted_129 (E : zEv) (D : Nat) (post : zM → Prop) (px : String → zM → Prop)  (y3 : Int32) (y4 : Int32) (M : zM) : Prop := Z E jX10_markUnparted (D + 1) 0 (zQv post px) 129 0 [.ref 48, .ref 61, zU, .int y3, .int y4] [] M
theorem e_X10_markUnparted {E : zEv} {D : Nat} {post : zM → Prop} {px : String → zM → Prop} {M : zM} {x2 : Int32}  (h : zCv E jJ7_fill_53178 D 0 [.ref 52, .int (0 : Int32)] M (fun M1 => w_X10_markUnparted_10 E D post px x2 (0 : Int32) M1) px) : zCv E jX10_markUnparted (D + 1) 0 [.ref 48, .ref 61, .int x2] M post px := by
  refine z_meth (by decide) (Nat.le_of_ble_eq_true rfl) ?_
  show Z E jX10_markUnparted (D + 1) 0 (zQv post px) 0 0 [.ref 48, .ref 61, .int x2, zU, zU] [] M
  refine z_aload_n dX10_markUnparted_0 rfl ?_
  refine z_getR dX10_markUnparted_1 zg_X10_21 zs_48 rfl ?_
  refine z_iconst (v := (0 : Int32)) dX10_markUnparted_4 rfl ?_
  refine z_callSv (As := [.ref 52, .int (0 : Int32)]) (st := []) dX10_markUnparted_5 zi_X10_85 rfl rfl (Nat.le_of_ble_eq_true rfl) (by decide) (fun _ _ hx => hx) h ?_
  intro M1 h2
  refine z_iconst (v := (0 : Int32)) dX10_markUnparted_8 rfl ?_
  refine z_istore_n dX10_markUnparted_9 (by decide) (ls' := [.ref 48, .ref 61, .int x2, .int (0 : Int32), zU]) rfl ?_
  exact h2
theorem t_X10_markUnparted_10 {E : zEv} {D : Nat} {post : zM → Prop} {px : String → zM → Prop} {M : zM}   {y2 : Int32} {y3 : Int32} (h : zCi E jX3_worldCount D 0 [.ref 61] M (fun r3 M1 => ((r3 ≤ y3 → w_X10_markUnparted_74 E D post px (0 : Int32) M1) ∧ (¬ r3 ≤ y3 → w_X10_markUnparted_23 E D post px y2 y3 (y3 + (1 : Int32)) M1))) px) : w_X10_markUnparted_10 E D post px y2 y3 M := by
  show Z E jX10_markUnparted (D + 1) 0 (zQv post px) 10 0 [.ref 48, .ref 61, .int y2, .int y3, zU] [] M
  refine z_iload_n dX10_markUnparted_10 rfl ?_
  refine z_aload_n dX10_markUnparted_11 rfl ?_
  refine z_callVi (As := []) (st := [.int y3]) dX10_markUnparted_12 zi_X10_24 rfl rfl zs_61 rfl rfl (Nat.le_of_ble_eq_true rfl) (by decide) (fun _ _ hx => hx) h ?_
  intro r3 M1 h2
  refine z_icmp_ge (tgt := 72) dX10_markUnparted_15 (by decide) (fun g4 => ?_) (fun g4 => ?_)
  · have h5 := h2.1 g4
    refine z_iconst (v := (0 : Int32)) dX10_markUnparted_72 rfl ?_
    refine z_istore_n dX10_markUnparted_73 (by decide) (ls' := [.ref 48, .ref 61, .int y2, .int (0 : Int32), zU]) rfl ?_
    refine z_weak [true, true, false, true, false] (ls' := [.ref 48, .ref 61, zU, .int (0 : Int32), zU]) rfl rfl ?_
    exact h5
  · have h6 := h2.2 g4
    refine z_iload_n dX10_markUnparted_18 rfl ?_
    refine z_iconst (v := (1 : Int32)) dX10_markUnparted_19 rfl ?_
    refine z_iadd dX10_markUnparted_20 ?_
    refine z_istore dX10_markUnparted_21 (by decide) (ls' := [.ref 48, .ref 61, .int y2, .int y3, .int (y3 + (1 : Int32))]) rfl ?_
    exact h6
theorem t_X10_markUnparted_74 {E : zEv} {D : Nat} {post : zM → Prop} {px : String → zM → Prop} {M : zM}   {y3 : Int32} (h : (((M.1 61 7) ≤ y3 → post M) ∧ (¬ (M.1 61 7) ≤ y3 → w_X10_markUnparted_85 E D post px y3 (0 : Int32) M))) : w_X10_markUnparted_74 E D post px y3 M := by
  show Z E jX10_markUnparted (D + 1) 0 (zQv post px) 74 0 [.ref 48, .ref 61, zU, .int y3, zU] [] M
  refine z_iload_n dX10_markUnparted_74 rfl ?_
  refine z_aload_n dX10_markUnparted_75 rfl ?_
  refine z_getI dX10_markUnparted_76 zg_X10_68 zs_61 rfl ?_
  refine z_icmp_ge (tgt := 141) dX10_markUnparted_79 (by decide) (fun g1 => ?_) (fun g1 => ?_)
  · have h2 := h.1 g1
    exact z_vret dX10_markUnparted_141 rfl (by decide) h2
  · have h3 := h.2 g1
    refine z_iconst (v := (0 : Int32)) dX10_markUnparted_82 rfl ?_
    refine z_istore dX10_markUnparted_83 (by decide) (ls' := [.ref 48, .ref 61, zU, .int y3, .int (0 : Int32)]) rfl ?_
    exact h3
theorem t_X10_markUnparted_23 {E : zEv} {D : Nat} {post : zM → Prop} {px : String → zM → Prop} {M : zM}   {y2 : Int32} {y3 : Int32} {y4 : Int32} (h : zCi E jX3_worldCount D 0 [.ref 61] M (fun r3 M1 => ((r3 ≤ y4 → w_X10_markUnparted_10 E D post px y2 (y3 + (1 : Int32)) M1) ∧ (¬ r3 ≤ y4 → (((((y3 ^^^ y4) >>> (y2 &&& 31)) &&& (1 : Int32)) = 0 → w_X10_markUnparted_60 E D post px y2 y3 y4 M1) ∧ (¬ (((y3 ^^^ y4) >>> (y2 &&& 31)) &&& (1 : Int32)) = 0 → zCi E jX10_partedBy D 0 [.ref 48, .int (M1.1 61 7), .int y3, .int y4] M1 (fun r12 M10 => vp_in r12 256 ∧ ∀ M15 : zM, M15 = zup M10 52 (r12).toNatClampNeg (1 : Int32) → w_X10_markUnparted_60 E D post px y2 y3 y4 M15) px))))) px) : w_X10_markUnparted_23 E D post px y2 y3 y4 M := by
  show Z E jX10_markUnparted (D + 1) 0 (zQv post px) 23 0 [.ref 48, .ref 61, .int y2, .int y3, .int y4] [] M
  refine z_iload dX10_markUnparted_23 rfl ?_
  refine z_aload_n dX10_markUnparted_25 rfl ?_
  refine z_callVi (As := []) (st := [.int y4]) dX10_markUnparted_26 zi_X10_24 rfl rfl zs_61 rfl rfl (Nat.le_of_ble_eq_true rfl) (by decide) (fun _ _ hx => hx) h ?_
  intro r3 M1 h2
  refine z_icmp_ge (tgt := 66) dX10_markUnparted_29 (by decide) (fun g4 => ?_) (fun g4 => ?_)
  · have h5 := h2.1 g4
    refine z_iinc dX10_markUnparted_66 rfl (by decide) (ls' := [.ref 48, .ref 61, .int y2, .int (y3 + (1 : Int32)), .int y4]) rfl ?_
    refine z_goto (tgt := 10) dX10_markUnparted_69 (by decide) ?_
    refine z_weak [true, true, true, true, false] (ls' := [.ref 48, .ref 61, .int y2, .int (y3 + (1 : Int32)), zU]) rfl rfl ?_
    exact h5
  · have h6 := h2.2 g4
    refine z_iload_n dX10_markUnparted_32 rfl ?_
    refine z_iload dX10_markUnparted_33 rfl ?_
    refine z_ixor dX10_markUnparted_35 ?_
    refine z_iload_n dX10_markUnparted_36 rfl ?_
    refine z_ishr dX10_markUnparted_37 ?_
    refine z_iconst (v := (1 : Int32)) dX10_markUnparted_38 rfl ?_
    refine z_iand dX10_markUnparted_39 ?_
    refine z_if_eq (tgt := 60) dX10_markUnparted_40 (by decide) (fun g7 => ?_) (fun g7 => ?_)
    · have h8 := h6.1 g7
      exact h8
    · have h9 := h6.2 g7
      refine z_aload_n dX10_markUnparted_43 rfl ?_
      refine z_getR dX10_markUnparted_44 zg_X10_21 zs_48 rfl ?_
      refine z_aload_n dX10_markUnparted_47 rfl ?_
      refine z_aload_n dX10_markUnparted_48 rfl ?_
      refine z_getI dX10_markUnparted_49 zg_X10_68 zs_61 rfl ?_
      refine z_iload_n dX10_markUnparted_52 rfl ?_
      refine z_iload dX10_markUnparted_53 rfl ?_
      refine z_callVi (As := [.int (M1.1 61 7), .int y3, .int y4]) (st := [.ref 52]) dX10_markUnparted_55 zi_X10_96 rfl rfl zs_48 rfl rfl (Nat.le_of_ble_eq_true rfl) (by decide) (fun _ _ hx => hx) h9 ?_
      intro r12 M10 h11
      refine z_iconst (v := (1 : Int32)) dX10_markUnparted_58 rfl ?_
      obtain ⟨g14, h13⟩ := h11
      refine z_iast dX10_markUnparted_59 zs_52 g14 ?_
      generalize hhM15 : zup M10 52 (r12).toNatClampNeg (1 : Int32) = M15
      have h16 := h13 M15 hhM15.symm
      exact h16
theorem t_X10_markUnparted_85 {E : zEv} {D : Nat} {post : zM → Prop} {px : String → zM → Prop} {M : zM}   {y3 : Int32} {y4 : Int32} (h : ((((1 : Int32) <<< ((M.1 61 7) &&& 31)) ≤ y4 → w_X10_markUnparted_74 E D post px (y3 + (1 : Int32)) M) ∧ (¬ ((1 : Int32) <<< ((M.1 61 7) &&& 31)) ≤ y4 → ((((y4 >>> (y3 &&& 31)) &&& (1 : Int32)) = 0 → w_X10_markUnparted_129 E D post px y3 y4 M) ∧ (¬ ((y4 >>> (y3 &&& 31)) &&& (1 : Int32)) = 0 → vp_in (y4 &&& (((1 : Int32) <<< (y3 &&& 31)) ^^^ (-1 : Int32))) 256 ∧ (((M.1 52 ((y4 &&& (((1 : Int32) <<< (y3 &&& 31)) ^^^ (-1 : Int32)))).toNatClampNeg) = 0 → w_X10_markUnparted_129 E D post px y3 y4 M) ∧ (¬ (M.1 52 ((y4 &&& (((1 : Int32) <<< (y3 &&& 31)) ^^^ (-1 : Int32)))).toNatClampNeg) = 0 → vp_in y4 256 ∧ ∀ M14 : zM, M14 = zup M 52 (y4).toNatClampNeg (1 : Int32) → w_X10_markUnparted_129 E D post px y3 y4 M14))))))) : w_X10_markUnparted_85 E D post px y3 y4 M := by
  show Z E jX10_markUnparted (D + 1) 0 (zQv post px) 85 0 [.ref 48, .ref 61, zU, .int y3, .int y4] [] M
  refine z_iload dX10_markUnparted_85 rfl ?_
  refine z_iconst (v := (1 : Int32)) dX10_markUnparted_87 rfl ?_
  refine z_aload_n dX10_markUnparted_88 rfl ?_
  refine z_getI dX10_markUnparted_89 zg_X10_68 zs_61 rfl ?_
  refine z_ishl dX10_markUnparted_92 ?_
  refine z_icmp_ge (tgt := 135) dX10_markUnparted_93 (by decide) (fun g1 => ?_) (fun g1 => ?_)
  · have h2 := h.1 g1
    refine z_iinc dX10_markUnparted_135 rfl (by decide) (ls' := [.ref 48, .ref 61, zU, .int (y3 + (1 : Int32)), .int y4]) rfl ?_
    refine z_goto (tgt := 74) dX10_markUnparted_138 (by decide) ?_
    refine z_weak [true, true, false, true, false] (ls' := [.ref 48, .ref 61, zU, .int (y3 + (1 : Int32)), zU]) rfl rfl ?_
    exact h2
  · have h3 := h.2 g1
    refine z_iload dX10_markUnparted_96 rfl ?_
    refine z_iload_n dX10_markUnparted_98 rfl ?_
    refine z_ishr dX10_markUnparted_99 ?_
    refine z_iconst (v := (1 : Int32)) dX10_markUnparted_100 rfl ?_
    refine z_iand dX10_markUnparted_101 ?_
    refine z_if_eq (tgt := 129) dX10_markUnparted_102 (by decide) (fun g4 => ?_) (fun g4 => ?_)
    · have h5 := h3.1 g4
      exact h5
    · have h6 := h3.2 g4
      refine z_aload_n dX10_markUnparted_105 rfl ?_
      refine z_getR dX10_markUnparted_106 zg_X10_21 zs_48 rfl ?_
      refine z_iload dX10_markUnparted_109 rfl ?_
      refine z_iconst (v := (1 : Int32)) dX10_markUnparted_111 rfl ?_
      refine z_iload_n dX10_markUnparted_112 rfl ?_
      refine z_ishl dX10_markUnparted_113 ?_
      refine z_iconst (v := (-1 : Int32)) dX10_markUnparted_114 rfl ?_
      refine z_ixor dX10_markUnparted_115 ?_
      refine z_iand dX10_markUnparted_116 ?_
      obtain ⟨g8, h7⟩ := h6
      refine z_iald dX10_markUnparted_117 zs_52 g8 ?_
      refine z_if_eq (tgt := 129) dX10_markUnparted_118 (by decide) (fun g9 => ?_) (fun g9 => ?_)
      · have h10 := h7.1 g9
        exact h10
      · have h11 := h7.2 g9
        refine z_aload_n dX10_markUnparted_121 rfl ?_
        refine z_getR dX10_markUnparted_122 zg_X10_21 zs_48 rfl ?_
        refine z_iload dX10_markUnparted_125 rfl ?_
        refine z_iconst (v := (1 : Int32)) dX10_markUnparted_127 rfl ?_
        obtain ⟨g13, h12⟩ := h11
        refine z_iast dX10_markUnparted_128 zs_52 g13 ?_
        generalize hhM14 : zup M 52 (y4).toNatClampNeg (1 : Int32) = M14
        have h15 := h12 M14 hhM14.symm
        exact h15
theorem t_X10_markUnparted_60 {E : zEv} {D : Nat} {post : zM → Prop} {px : String → zM → Prop} {M : zM}   {y2 : Int32} {y3 : Int32} {y4 : Int32} (h : w_X10_markUnparted_23 E D post px y2 y3 (y4 + (1 : Int32)) M) : w_X10_markUnparted_60 E D post px y2 y3 y4 M := by
  show Z E jX10_markUnparted (D + 1) 0 (zQv post px) 60 0 [.ref 48, .ref 61, .int y2, .int y3, .int y4] [] M
  refine z_iinc dX10_markUnparted_60 rfl (by decide) (ls' := [.ref 48, .ref 61, .int y2, .int y3, .int (y4 + (1 : Int32))]) rfl ?_
  refine z_goto (tgt := 23) dX10_markUnparted_63 (by decide) ?_
  exact h
theorem t_X10_markUnparted_129 {E : zEv} {D : Nat} {post : zM → Prop} {px : String → zM → Prop} {M : zM}   {y3 : Int32} {y4 : Int32} (h : w_X10_markUnparted_85 E D post px y3 (y4 + (1 : Int32)) M) : w_X10_markUnparted_129 E D post px y3 y4 M := by
  show Z E jX10_markUnparted (D + 1) 0 (zQv post px) 129 0 [.ref 48, .ref 61, zU, .int y3, .int y4] [] M
  refine z_iinc dX10_markUnparted_129 rfl (by decide) (ls' := [.ref 48, .ref 61, zU, .int y3, .int (y4 + (1 : Int32))]) rfl ?_
  refine z_goto (tgt := 85) dX10_markUnparted_132 (by decide) ?_
  exact h
