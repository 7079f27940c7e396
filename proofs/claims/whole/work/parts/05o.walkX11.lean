theorem e_X11_feed {E : zEv} {D : Nat} {post : Int32 → zM → Prop} {px : String → zM → Prop} {M : zM} {x1 : Int32} {x2 : Int32} {x3 : Int32} {x4 : Int32} {x5 : Int32}  (h : ((((M.1 20 1) + (20 : Int32)) ≤ (400 : Int32) → zCv E jX9_add D 0 [.ref 20, .int x1] M (fun M4 => zCv E jX9_add D 0 [.ref 20, .int x2] M4 (fun M6 => zCv E jX9_add D 0 [.ref 20, .int x3] M6 (fun M8 => zCv E jX9_add D 0 [.ref 20, .int x4] M8 (fun M10 => zCv E jX9_add D 0 [.ref 20, .int x5] M10 (fun M12 => post (M12.1 20 1) M12) px) px) px) px) px) ∧ (¬ ((M.1 20 1) + (20 : Int32)) ≤ (400 : Int32) → post (-1 : Int32) M))) : zCi E jX11_feed (D + 1) 0 [.ref 19, .int x1, .int x2, .int x3, .int x4, .int x5] M post px := by
  refine z_meth (by decide) (Nat.le_of_ble_eq_true rfl) ?_
  show Z E jX11_feed (D + 1) 0 (zQi post px) 0 0 [.ref 19, .int x1, .int x2, .int x3, .int x4, .int x5] [] M
  refine z_aload_n dX11_feed_0 rfl ?_
  refine z_getR dX11_feed_1 zg_X11_10 zs_19 rfl ?_
  refine z_getI dX11_feed_4 zg_X11_82 zs_20 rfl ?_
  refine z_bipush (v := (20 : Int32)) dX11_feed_7 rfl ?_
  refine z_iadd dX11_feed_9 ?_
  refine z_sipush (v := (400 : Int32)) dX11_feed_10 rfl ?_
  refine z_icmp_le (tgt := 18) dX11_feed_13 (by decide) (fun g1 => ?_) (fun g1 => ?_)
  · have h2 := h.1 g1
    refine z_aload_n dX11_feed_18 rfl ?_
    refine z_getR dX11_feed_19 zg_X11_10 zs_19 rfl ?_
    refine z_iload_n dX11_feed_22 rfl ?_
    refine z_callVv (As := [.int x1]) (st := []) dX11_feed_23 zi_X11_85 rfl rfl zs_20 rfl rfl (Nat.le_of_ble_eq_true rfl) (by decide) (fun _ _ hx => hx) h2 ?_
    intro M4 h5
    refine z_aload_n dX11_feed_26 rfl ?_
    refine z_getR dX11_feed_27 zg_X11_10 zs_19 rfl ?_
    refine z_iload_n dX11_feed_30 rfl ?_
    refine z_callVv (As := [.int x2]) (st := []) dX11_feed_31 zi_X11_85 rfl rfl zs_20 rfl rfl (Nat.le_of_ble_eq_true rfl) (by decide) (fun _ _ hx => hx) h5 ?_
    intro M6 h7
    refine z_aload_n dX11_feed_34 rfl ?_
    refine z_getR dX11_feed_35 zg_X11_10 zs_19 rfl ?_
    refine z_iload_n dX11_feed_38 rfl ?_
    refine z_callVv (As := [.int x3]) (st := []) dX11_feed_39 zi_X11_85 rfl rfl zs_20 rfl rfl (Nat.le_of_ble_eq_true rfl) (by decide) (fun _ _ hx => hx) h7 ?_
    intro M8 h9
    refine z_aload_n dX11_feed_42 rfl ?_
    refine z_getR dX11_feed_43 zg_X11_10 zs_19 rfl ?_
    refine z_iload dX11_feed_46 rfl ?_
    refine z_callVv (As := [.int x4]) (st := []) dX11_feed_48 zi_X11_85 rfl rfl zs_20 rfl rfl (Nat.le_of_ble_eq_true rfl) (by decide) (fun _ _ hx => hx) h9 ?_
    intro M10 h11
    refine z_aload_n dX11_feed_51 rfl ?_
    refine z_getR dX11_feed_52 zg_X11_10 zs_19 rfl ?_
    refine z_iload dX11_feed_55 rfl ?_
    refine z_callVv (As := [.int x5]) (st := []) dX11_feed_57 zi_X11_85 rfl rfl zs_20 rfl rfl (Nat.le_of_ble_eq_true rfl) (by decide) (fun _ _ hx => hx) h11 ?_
    intro M12 h13
    refine z_aload_n dX11_feed_60 rfl ?_
    refine z_getR dX11_feed_61 zg_X11_10 zs_19 rfl ?_
    refine z_getI dX11_feed_64 zg_X11_82 zs_20 rfl ?_
    exact z_iret dX11_feed_67 rfl rfl (by decide) h13
  · have h3 := h.2 g1
    refine z_iconst (v := (-1 : Int32)) dX11_feed_16 rfl ?_
    exact z_iret dX11_feed_17 rfl rfl (by decide) h3
def w_X11_end_15 (E : zEv) (D : Nat) (post : Int32 → zM → Prop) (px : String → zM → Prop)   (M : zM) : Prop := Z E jX11_end D 0 (zQi post px) 15 0 [zU, zU] [] M
theorem e_X11_end {E : zEv} {D : Nat} {post : Int32 → zM → Prop} {px : String → zM → Prop} {M : zM} {x1 : Int32}  (h : ((x1 < 0 → w_X11_end_15 E D post px  M) ∧ (¬ x1 < 0 → ((x1 ≤ (M.1 20 1) → ∀ M7 : zM, M7 = zup M 20 1 x1 → post (1 : Int32) M7) ∧ (¬ x1 ≤ (M.1 20 1) → w_X11_end_15 E D post px  M))))) : zCi E jX11_end D 0 [.ref 19, .int x1] M post px := by
  refine z_meth (by decide) (Nat.le_of_ble_eq_true rfl) ?_
  show Z E jX11_end D 0 (zQi post px) 0 0 [.ref 19, .int x1] [] M
  refine z_iload_n dX11_end_0 rfl ?_
  refine z_if_lt (tgt := 15) dX11_end_1 (by decide) (fun g1 => ?_) (fun g1 => ?_)
  · have h2 := h.1 g1
    refine z_weak [false, false] (ls' := [zU, zU]) rfl rfl ?_
    exact h2
  · have h3 := h.2 g1
    refine z_iload_n dX11_end_4 rfl ?_
    refine z_aload_n dX11_end_5 rfl ?_
    refine z_getR dX11_end_6 zg_X11_10 zs_19 rfl ?_
    refine z_getI dX11_end_9 zg_X11_82 zs_20 rfl ?_
    refine z_icmp_le (tgt := 17) dX11_end_12 (by decide) (fun g4 => ?_) (fun g4 => ?_)
    · have h5 := h3.1 g4
      refine z_aload_n dX11_end_17 rfl ?_
      refine z_getR dX11_end_18 zg_X11_10 zs_19 rfl ?_
      refine z_iload_n dX11_end_21 rfl ?_
      refine z_putI dX11_end_22 zp_X11_82 zs_20 rfl rfl rfl ?_
      generalize hhM7 : zup M 20 1 x1 = M7
      have h8 := h5 M7 hhM7.symm
      refine z_iconst (v := (1 : Int32)) dX11_end_25 rfl ?_
      exact z_iret dX11_end_26 rfl (by decide) (by decide) h8
    · have h6 := h3.2 g4
      refine z_weak [false, false] (ls' := [zU, zU]) rfl rfl ?_
      exact h6
theorem t_X11_end_15 {E : zEv} {D : Nat} {post : Int32 → zM → Prop} {px : String → zM → Prop} {M : zM}    (h : post (0 : Int32) M) : w_X11_end_15 E D post px  M := by
  show Z E jX11_end D 0 (zQi post px) 15 0 [zU, zU] [] M
  refine z_iconst (v := (0 : Int32)) dX11_end_15 rfl ?_
  exact z_iret dX11_end_16 rfl (by decide) (by decide) h
def w_X11_court_37 (E : zEv) (D : Nat) (post : Int32 → zM → Prop) (px : String → zM → Prop)  (s0 : Int32) (M : zM) : Prop := Z E jX11_court (D + 1) 1 (zQi post px) 37 0 [.ref 19] [.int s0, .ref 19] M
theorem e_X11_court {E : zEv} {D : Nat} {post : Int32 → zM → Prop} {px : String → zM → Prop} {M : zM}   (h : zCv E jX3_copy D 0 [.ref 75, .ref 61] M (fun M1 => zCi E jX4_read D 0 [.ref 20, .ref 75] M1 (fun r5 M3 => ((r5 = 0 → w_X11_court_37 E D post px (M3.1 20 3) M3) ∧ (¬ r5 = 0 → w_X11_court_37 E D post px (-1 : Int32) M3))) px) px) : zCi E jX11_court (D + 1) 1 [.ref 19] M post px := by
  refine z_meth (by decide) (Nat.le_of_ble_eq_true rfl) ?_
  show Z E jX11_court (D + 1) 1 (zQi post px) 0 0 [.ref 19] [] M
  refine z_aload_n dX11_court_0 rfl ?_
  refine z_getR dX11_court_1 zg_X11_33 zs_19 rfl ?_
  refine z_aload_n dX11_court_4 rfl ?_
  refine z_getR dX11_court_5 zg_X11_29 zs_19 rfl ?_
  refine z_callVv (As := [.ref 61]) (st := []) dX11_court_8 zi_X11_89 rfl rfl zs_75 rfl rfl (Nat.le_of_ble_eq_true rfl) (by decide) (fun _ _ hx => hx) h ?_
  intro M1 h2
  refine z_aload_n dX11_court_11 rfl ?_
  refine z_aload_n dX11_court_12 rfl ?_
  refine z_getR dX11_court_13 zg_X11_10 zs_19 rfl ?_
  refine z_aload_n dX11_court_16 rfl ?_
  refine z_getR dX11_court_17 zg_X11_33 zs_19 rfl ?_
  refine z_callSi (As := [.ref 20, .ref 75]) (st := [.ref 19]) dX11_court_20 zi_X11_93 rfl rfl (Nat.le_of_ble_eq_true rfl) (by decide) (fun _ _ hx => hx) h2 ?_
  intro r5 M3 h4
  refine z_if_eq (tgt := 30) dX11_court_23 (by decide) (fun g6 => ?_) (fun g6 => ?_)
  · have h7 := h4.1 g6
    refine z_aload_n dX11_court_30 rfl ?_
    refine z_getR dX11_court_31 zg_X11_10 zs_19 rfl ?_
    refine z_getI dX11_court_34 zg_X11_99 zs_20 rfl ?_
    exact h7
  · have h8 := h4.2 g6
    refine z_iconst (v := (-1 : Int32)) dX11_court_26 rfl ?_
    refine z_goto (tgt := 37) dX11_court_27 (by decide) ?_
    exact h8
theorem t_X11_court_37 {E : zEv} {D : Nat} {post : Int32 → zM → Prop} {px : String → zM → Prop} {M : zM}   {s0 : Int32} (h : ∀ M1 : zM, M1 = zup M 19 11 s0 → zCi E jX9_useUp D 0 [.ref 20] M1 (fun r5 M3 => (((M3.1 19 11) = (-1 : Int32) → (((M3.1 61 9) < (12 : Int32) → zCv E jX3_copy D 0 [.ref 61, .ref 75] M3 (fun M12 => ∀ M14 : zM, M14 = zup M12 61 9 ((M12.1 61 9) + (1 : Int32)) → zCv E jX5_forget D 0 [.ref 59] M14 (fun M16 => post (M16.1 61 9) M16) px) px) ∧ (¬ (M3.1 61 9) < (12 : Int32) → px "java/lang/UnsupportedOperationException" M3))) ∧ (¬ (M3.1 19 11) = (-1 : Int32) → px "java/lang/IllegalArgumentException" M3))) px) : w_X11_court_37 E D post px s0 M := by
  show Z E jX11_court (D + 1) 1 (zQi post px) 37 0 [.ref 19] [.int s0, .ref 19] M
  refine z_putI dX11_court_37 zp_X11_74 zs_19 rfl rfl rfl ?_
  generalize hhM1 : zup M 19 11 s0 = M1
  have h2 := h M1 hhM1.symm
  refine z_aload_n dX11_court_40 rfl ?_
  refine z_getR dX11_court_41 zg_X11_10 zs_19 rfl ?_
  refine z_callVi (As := []) (st := []) dX11_court_44 zi_X11_102 rfl rfl zs_20 rfl rfl (Nat.le_of_ble_eq_true rfl) (by decide) (fun _ _ hx => hx) h2 ?_
  intro r5 M3 h4
  refine z_pop dX11_court_47 rfl ?_
  refine z_aload_n dX11_court_48 rfl ?_
  refine z_getI dX11_court_49 zg_X11_74 zs_19 rfl ?_
  refine z_iconst (v := (-1 : Int32)) dX11_court_52 rfl ?_
  refine z_icmp_eq (tgt := 66) dX11_court_53 (by decide) (fun g6 => ?_) (fun g6 => ?_)
  · have h7 := h4.1 g6
    refine z_aload_n dX11_court_66 rfl ?_
    refine z_getR dX11_court_67 zg_X11_29 zs_19 rfl ?_
    refine z_getI dX11_court_70 zg_X11_113 zs_61 rfl ?_
    refine z_bipush (v := (12 : Int32)) dX11_court_73 rfl ?_
    refine z_icmp_lt (tgt := 88) dX11_court_75 (by decide) (fun g9 => ?_) (fun g9 => ?_)
    · have h10 := h7.1 g9
      refine z_aload_n dX11_court_88 rfl ?_
      refine z_getR dX11_court_89 zg_X11_29 zs_19 rfl ?_
      refine z_aload_n dX11_court_92 rfl ?_
      refine z_getR dX11_court_93 zg_X11_33 zs_19 rfl ?_
      refine z_callVv (As := [.ref 75]) (st := []) dX11_court_96 zi_X11_89 rfl rfl zs_61 rfl rfl (Nat.le_of_ble_eq_true rfl) (by decide) (fun _ _ hx => hx) h10 ?_
      intro M12 h13
      refine z_aload_n dX11_court_99 rfl ?_
      refine z_getR dX11_court_100 zg_X11_29 zs_19 rfl ?_
      refine z_dup dX11_court_103 rfl ?_
      refine z_getI dX11_court_104 zg_X11_113 zs_61 rfl ?_
      refine z_iconst (v := (1 : Int32)) dX11_court_107 rfl ?_
      refine z_iadd dX11_court_108 ?_
      refine z_putI dX11_court_109 zp_X11_113 zs_61 rfl rfl rfl ?_
      generalize hhM14 : zup M12 61 9 ((M12.1 61 9) + (1 : Int32)) = M14
      have h15 := h13 M14 hhM14.symm
      refine z_aload_n dX11_court_112 rfl ?_
      refine z_getR dX11_court_113 zg_X11_42 zs_19 rfl ?_
      refine z_callVv (As := []) (st := []) dX11_court_116 zi_X11_121 rfl rfl zs_59 rfl rfl (Nat.le_of_ble_eq_true rfl) (by decide) (fun _ _ hx => hx) h15 ?_
      intro M16 h17
      refine z_aload_n dX11_court_119 rfl ?_
      refine z_getR dX11_court_120 zg_X11_29 zs_19 rfl ?_
      refine z_getI dX11_court_123 zg_X11_113 zs_61 rfl ?_
      exact z_iret dX11_court_126 rfl rfl (by decide) h17
    · have h11 := h7.2 g9
      exact z_throw zt_X11_116_118 dX11_court_78 dX11_court_81 dX11_court_82 dX11_court_84 dX11_court_87 (Nat.le_of_ble_eq_true rfl) (by decide) h11
  · have h8 := h4.2 g6
    exact z_throw zt_X11_106_108 dX11_court_56 dX11_court_59 dX11_court_60 dX11_court_62 dX11_court_65 (Nat.le_of_ble_eq_true rfl) (by decide) h8
def w_X11_law_26 (E : zEv) (D : Nat) (post : Int32 → zM → Prop) (px : String → zM → Prop)  (s0 : Int32) (M : zM) : Prop := Z E jX11_law (D + 1) 1 (zQi post px) 26 0 [.ref 19] [.int s0, .ref 19] M
theorem e_X11_law {E : zEv} {D : Nat} {post : Int32 → zM → Prop} {px : String → zM → Prop} {M : zM}   (h : zCi E jX6_read D 0 [.ref 22, .ref 20] M (fun r3 M1 => ((r3 = 0 → w_X11_law_26 E D post px (M1.1 20 3) M1) ∧ (¬ r3 = 0 → w_X11_law_26 E D post px (-1 : Int32) M1))) px) : zCi E jX11_law (D + 1) 1 [.ref 19] M post px := by
  refine z_meth (by decide) (Nat.le_of_ble_eq_true rfl) ?_
  show Z E jX11_law (D + 1) 1 (zQi post px) 0 0 [.ref 19] [] M
  refine z_aload_n dX11_law_0 rfl ?_
  refine z_aload_n dX11_law_1 rfl ?_
  refine z_getR dX11_law_2 zg_X11_19 zs_19 rfl ?_
  refine z_aload_n dX11_law_5 rfl ?_
  refine z_getR dX11_law_6 zg_X11_10 zs_19 rfl ?_
  refine z_callVi (As := [.ref 20]) (st := [.ref 19]) dX11_law_9 zi_X11_124 rfl rfl zs_22 rfl rfl (Nat.le_of_ble_eq_true rfl) (by decide) (fun _ _ hx => hx) h ?_
  intro r3 M1 h2
  refine z_if_eq (tgt := 19) dX11_law_12 (by decide) (fun g4 => ?_) (fun g4 => ?_)
  · have h5 := h2.1 g4
    refine z_aload_n dX11_law_19 rfl ?_
    refine z_getR dX11_law_20 zg_X11_10 zs_19 rfl ?_
    refine z_getI dX11_law_23 zg_X11_99 zs_20 rfl ?_
    exact h5
  · have h6 := h2.2 g4
    refine z_iconst (v := (-1 : Int32)) dX11_law_15 rfl ?_
    refine z_goto (tgt := 26) dX11_law_16 (by decide) ?_
    exact h6
theorem t_X11_law_26 {E : zEv} {D : Nat} {post : Int32 → zM → Prop} {px : String → zM → Prop} {M : zM}   {s0 : Int32} (h : ∀ M1 : zM, M1 = zup M 19 11 s0 → zCi E jX9_useUp D 0 [.ref 20] M1 (fun r5 M3 => (((M3.1 19 11) = (-1 : Int32) → zCv E jX6_copy D 0 [.ref 36, .ref 22] M3 (fun M9 => zCv E jX5_forget D 0 [.ref 59] M9 (fun M11 => post (M11.1 36 6) M11) px) px) ∧ (¬ (M3.1 19 11) = (-1 : Int32) → px "java/lang/IllegalArgumentException" M3))) px) : w_X11_law_26 E D post px s0 M := by
  show Z E jX11_law (D + 1) 1 (zQi post px) 26 0 [.ref 19] [.int s0, .ref 19] M
  refine z_putI dX11_law_26 zp_X11_74 zs_19 rfl rfl rfl ?_
  generalize hhM1 : zup M 19 11 s0 = M1
  have h2 := h M1 hhM1.symm
  refine z_aload_n dX11_law_29 rfl ?_
  refine z_getR dX11_law_30 zg_X11_10 zs_19 rfl ?_
  refine z_callVi (As := []) (st := []) dX11_law_33 zi_X11_102 rfl rfl zs_20 rfl rfl (Nat.le_of_ble_eq_true rfl) (by decide) (fun _ _ hx => hx) h2 ?_
  intro r5 M3 h4
  refine z_pop dX11_law_36 rfl ?_
  refine z_aload_n dX11_law_37 rfl ?_
  refine z_getI dX11_law_38 zg_X11_74 zs_19 rfl ?_
  refine z_iconst (v := (-1 : Int32)) dX11_law_41 rfl ?_
  refine z_icmp_eq (tgt := 55) dX11_law_42 (by decide) (fun g6 => ?_) (fun g6 => ?_)
  · have h7 := h4.1 g6
    refine z_aload_n dX11_law_55 rfl ?_
    refine z_getR dX11_law_56 zg_X11_49 zs_19 rfl ?_
    refine z_getR dX11_law_59 zg_X11_127 zs_43 rfl ?_
    refine z_aload_n dX11_law_62 rfl ?_
    refine z_getR dX11_law_63 zg_X11_19 zs_19 rfl ?_
    refine z_callVv (As := [.ref 22]) (st := []) dX11_law_66 zi_X11_130 rfl rfl zs_36 rfl rfl (Nat.le_of_ble_eq_true rfl) (by decide) (fun _ _ hx => hx) h7 ?_
    intro M9 h10
    refine z_aload_n dX11_law_69 rfl ?_
    refine z_getR dX11_law_70 zg_X11_42 zs_19 rfl ?_
    refine z_callVv (As := []) (st := []) dX11_law_73 zi_X11_121 rfl rfl zs_59 rfl rfl (Nat.le_of_ble_eq_true rfl) (by decide) (fun _ _ hx => hx) h10 ?_
    intro M11 h12
    refine z_aload_n dX11_law_76 rfl ?_
    refine z_getR dX11_law_77 zg_X11_49 zs_19 rfl ?_
    refine z_getR dX11_law_80 zg_X11_127 zs_43 rfl ?_
    refine z_getI dX11_law_83 zg_X11_133 zs_36 rfl ?_
    exact z_iret dX11_law_86 rfl rfl (by decide) h12
  · have h8 := h4.2 g6
    exact z_throw zt_X11_106_108 dX11_law_45 dX11_law_48 dX11_law_49 dX11_law_51 dX11_law_54 (Nat.le_of_ble_eq_true rfl) (by decide) h8
theorem e_X11_fault {E : zEv} {D : Nat} {post : Int32 → zM → Prop} {px : String → zM → Prop} {M : zM}   (h : post (M.1 19 11) M) : zCi E jX11_fault D 0 [.ref 19] M post px := by
  refine z_meth (by decide) (Nat.le_of_ble_eq_true rfl) ?_
  show Z E jX11_fault D 0 (zQi post px) 0 0 [.ref 19] [] M
  refine z_aload_n dX11_fault_0 rfl ?_
  refine z_getI dX11_fault_1 zg_X11_74 zs_19 rfl ?_
  exact z_iret dX11_fault_4 rfl rfl (by decide) h
theorem e_X11_asks {E : zEv} {D : Nat} {post : Int32 → zM → Prop} {px : String → zM → Prop} {M : zM} {x1 : Int32}  (h : zCv E jX11_needQuestion D 1 [.ref 19, .int x1] M (fun M1 => vp_in x1 8 ∧ post (M1.1 73 (x1).toNatClampNeg) M1) px) : zCi E jX11_asks (D + 1) 1 [.ref 19, .int x1] M post px := by
  refine z_meth (by decide) (Nat.le_of_ble_eq_true rfl) ?_
  show Z E jX11_asks (D + 1) 1 (zQi post px) 0 0 [.ref 19, .int x1] [] M
  refine z_aload_n dX11_asks_0 rfl ?_
  refine z_iload_n dX11_asks_1 rfl ?_
  refine z_callVv (As := [.int x1]) (st := []) dX11_asks_2 zi_X11_201 rfl rfl zs_19 rfl rfl (Nat.le_of_ble_eq_true rfl) (by decide) (fun _ _ hx => hx) h ?_
  intro M1 h2
  refine z_aload_n dX11_asks_5 rfl ?_
  refine z_getR dX11_asks_6 zg_X11_29 zs_19 rfl ?_
  refine z_getR dX11_asks_9 zg_X11_204 zs_61 rfl ?_
  refine z_iload_n dX11_asks_12 rfl ?_
  obtain ⟨g4, h3⟩ := h2
  refine z_iald dX11_asks_13 zs_73 g4 ?_
  exact z_iret dX11_asks_14 rfl rfl (by decide) h3
theorem e_X11_sharp {E : zEv} {D : Nat} {post : Int32 → zM → Prop} {px : String → zM → Prop} {M : zM} {x1 : Int32}  (h : zCv E jX11_needWoman D 1 [.ref 19, .int x1] M (fun M1 => vp_in x1 4 ∧ post (M1.1 74 (x1).toNatClampNeg) M1) px) : zCi E jX11_sharp (D + 1) 1 [.ref 19, .int x1] M post px := by
  refine z_meth (by decide) (Nat.le_of_ble_eq_true rfl) ?_
  show Z E jX11_sharp (D + 1) 1 (zQi post px) 0 0 [.ref 19, .int x1] [] M
  refine z_aload_n dX11_sharp_0 rfl ?_
  refine z_iload_n dX11_sharp_1 rfl ?_
  refine z_callVv (As := [.int x1]) (st := []) dX11_sharp_2 zi_X11_207 rfl rfl zs_19 rfl rfl (Nat.le_of_ble_eq_true rfl) (by decide) (fun _ _ hx => hx) h ?_
  intro M1 h2
  refine z_aload_n dX11_sharp_5 rfl ?_
  refine z_getR dX11_sharp_6 zg_X11_29 zs_19 rfl ?_
  refine z_getR dX11_sharp_9 zg_X11_210 zs_61 rfl ?_
  refine z_iload_n dX11_sharp_12 rfl ?_
  obtain ⟨g4, h3⟩ := h2
  refine z_iald dX11_sharp_13 zs_74 g4 ?_
  exact z_iret dX11_sharp_14 rfl rfl (by decide) h3
theorem e_X11_stands {E : zEv} {D : Nat} {post : Int32 → zM → Prop} {px : String → zM → Prop} {M : zM} {x1 : Int32}  (h : zCv E jX11_needPlace D 1 [.ref 19, .int x1] M (fun M1 => vp_in x1 5 ∧ post (M1.1 68 (x1).toNatClampNeg) M1) px) : zCi E jX11_stands (D + 1) 1 [.ref 19, .int x1] M post px := by
  refine z_meth (by decide) (Nat.le_of_ble_eq_true rfl) ?_
  show Z E jX11_stands (D + 1) 1 (zQi post px) 0 0 [.ref 19, .int x1] [] M
  refine z_aload_n dX11_stands_0 rfl ?_
  refine z_iload_n dX11_stands_1 rfl ?_
  refine z_callVv (As := [.int x1]) (st := []) dX11_stands_2 zi_X11_213 rfl rfl zs_19 rfl rfl (Nat.le_of_ble_eq_true rfl) (by decide) (fun _ _ hx => hx) h ?_
  intro M1 h2
  refine z_aload_n dX11_stands_5 rfl ?_
  refine z_getR dX11_stands_6 zg_X11_29 zs_19 rfl ?_
  refine z_getR dX11_stands_9 zg_X11_139 zs_61 rfl ?_
  refine z_getR dX11_stands_12 zg_X11_216 zs_62 rfl ?_
  refine z_iload_n dX11_stands_15 rfl ?_
  obtain ⟨g4, h3⟩ := h2
  refine z_iald dX11_stands_16 zs_68 g4 ?_
  exact z_iret dX11_stands_17 rfl rfl (by decide) h3
def w_X11_moments_11 (E : zEv) (D : Nat) (post : Int32 → zM → Prop) (px : String → zM → Prop)   (M : zM) : Prop := Z E jX11_moments (D + 1) 1 (zQi post px) 11 0 [zU, zU] [] M
theorem e_X11_moments {E : zEv} {D : Nat} {post : Int32 → zM → Prop} {px : String → zM → Prop} {M : zM} {x1 : Int32}  (h : ((x1 < (1 : Int32) → w_X11_moments_11 E D post px  M) ∧ (¬ x1 < (1 : Int32) → ((x1 ≤ (60 : Int32) → zCv E jX5_remember D 0 [.ref 59, .ref 61] M (fun M7 => zCi E jX1_live D 0 [.ref 43, .ref 61, .int x1] M7 (fun r11 M9 => post r11 M9) px) px) ∧ (¬ x1 ≤ (60 : Int32) → w_X11_moments_11 E D post px  M))))) : zCi E jX11_moments (D + 1) 1 [.ref 19, .int x1] M post px := by
  refine z_meth (by decide) (Nat.le_of_ble_eq_true rfl) ?_
  show Z E jX11_moments (D + 1) 1 (zQi post px) 0 0 [.ref 19, .int x1] [] M
  refine z_iload_n dX11_moments_0 rfl ?_
  refine z_iconst (v := (1 : Int32)) dX11_moments_1 rfl ?_
  refine z_icmp_lt (tgt := 11) dX11_moments_2 (by decide) (fun g1 => ?_) (fun g1 => ?_)
  · have h2 := h.1 g1
    refine z_weak [false, false] (ls' := [zU, zU]) rfl rfl ?_
    exact h2
  · have h3 := h.2 g1
    refine z_iload_n dX11_moments_5 rfl ?_
    refine z_bipush (v := (60 : Int32)) dX11_moments_6 rfl ?_
    refine z_icmp_le (tgt := 21) dX11_moments_8 (by decide) (fun g4 => ?_) (fun g4 => ?_)
    · have h5 := h3.1 g4
      refine z_aload_n dX11_moments_21 rfl ?_
      refine z_getR dX11_moments_22 zg_X11_42 zs_19 rfl ?_
      refine z_aload_n dX11_moments_25 rfl ?_
      refine z_getR dX11_moments_26 zg_X11_29 zs_19 rfl ?_
      refine z_callVv (As := [.ref 61]) (st := []) dX11_moments_29 zi_X11_221 rfl rfl zs_59 rfl rfl (Nat.le_of_ble_eq_true rfl) (by decide) (fun _ _ hx => hx) h5 ?_
      intro M7 h8
      refine z_aload_n dX11_moments_32 rfl ?_
      refine z_getR dX11_moments_33 zg_X11_49 zs_19 rfl ?_
      refine z_aload_n dX11_moments_36 rfl ?_
      refine z_getR dX11_moments_37 zg_X11_29 zs_19 rfl ?_
      refine z_iload_n dX11_moments_40 rfl ?_
      refine z_callVi (As := [.ref 61, .int x1]) (st := []) dX11_moments_41 zi_X11_224 rfl rfl zs_43 rfl rfl (Nat.le_of_ble_eq_true rfl) (by decide) (fun _ _ hx => hx) h8 ?_
      intro r11 M9 h10
      exact z_iret dX11_moments_44 rfl rfl (by decide) h10
    · have h6 := h3.2 g4
      refine z_weak [false, false] (ls' := [zU, zU]) rfl rfl ?_
      exact h6
theorem t_X11_moments_11 {E : zEv} {D : Nat} {post : Int32 → zM → Prop} {px : String → zM → Prop} {M : zM}    (h : px "java/lang/IllegalArgumentException" M) : w_X11_moments_11 E D post px  M := by
  show Z E jX11_moments (D + 1) 1 (zQi post px) 11 0 [zU, zU] [] M
  exact z_throw zt_X11_106_219 dX11_moments_11 dX11_moments_14 dX11_moments_15 dX11_moments_17 dX11_moments_20 (Nat.le_of_ble_eq_true rfl) (by decide) h
theorem e_X11_say {E : zEv} {D : Nat} {post : Int32 → zM → Prop} {px : String → zM → Prop} {M : zM} {x1 : Int32}  (h : zCv E jX11_needQuestion D 1 [.ref 19, .int x1] M (fun M1 => zCv E jX5_remember D 0 [.ref 59, .ref 61] M1 (fun M3 => zCi E jX1_utter D 0 [.ref 43, .ref 61, .int x1, .int (0 : Int32)] M3 (fun r7 M5 => post r7 M5) px) px) px) : zCi E jX11_say (D + 1) 1 [.ref 19, .int x1] M post px := by
  refine z_meth (by decide) (Nat.le_of_ble_eq_true rfl) ?_
  show Z E jX11_say (D + 1) 1 (zQi post px) 0 0 [.ref 19, .int x1] [] M
  refine z_aload_n dX11_say_0 rfl ?_
  refine z_iload_n dX11_say_1 rfl ?_
  refine z_callVv (As := [.int x1]) (st := []) dX11_say_2 zi_X11_201 rfl rfl zs_19 rfl rfl (Nat.le_of_ble_eq_true rfl) (by decide) (fun _ _ hx => hx) h ?_
  intro M1 h2
  refine z_aload_n dX11_say_5 rfl ?_
  refine z_getR dX11_say_6 zg_X11_42 zs_19 rfl ?_
  refine z_aload_n dX11_say_9 rfl ?_
  refine z_getR dX11_say_10 zg_X11_29 zs_19 rfl ?_
  refine z_callVv (As := [.ref 61]) (st := []) dX11_say_13 zi_X11_221 rfl rfl zs_59 rfl rfl (Nat.le_of_ble_eq_true rfl) (by decide) (fun _ _ hx => hx) h2 ?_
  intro M3 h4
  refine z_aload_n dX11_say_16 rfl ?_
  refine z_getR dX11_say_17 zg_X11_49 zs_19 rfl ?_
  refine z_aload_n dX11_say_20 rfl ?_
  refine z_getR dX11_say_21 zg_X11_29 zs_19 rfl ?_
  refine z_iload_n dX11_say_24 rfl ?_
  refine z_iconst (v := (0 : Int32)) dX11_say_25 rfl ?_
  refine z_callVi (As := [.ref 61, .int x1, .int (0 : Int32)]) (st := []) dX11_say_26 zi_X11_227 rfl rfl zs_43 rfl rfl (Nat.le_of_ble_eq_true rfl) (by decide) (fun _ _ hx => hx) h4 ?_
  intro r7 M5 h6
  exact z_iret dX11_say_29 rfl rfl (by decide) h6
theorem e_X11_change {E : zEv} {D : Nat} {post : Int32 → zM → Prop} {px : String → zM → Prop} {M : zM} {x1 : Int32} {x2 : Int32}  (h : zCv E jX11_needTwo D 3 [.ref 19, .int x1, .int x2] M (fun M1 => zCv E jX5_remember D 0 [.ref 59, .ref 61] M1 (fun M3 => zCv E jX8_swap D 0 [.ref 62, .int x1, .int x2] M3 (fun M5 => vp_in x1 5 ∧ post (M5.1 67 (x1).toNatClampNeg) M5) px) px) px) : zCi E jX11_change (D + 1) 3 [.ref 19, .int x1, .int x2] M post px := by
  refine z_meth (by decide) (Nat.le_of_ble_eq_true rfl) ?_
  show Z E jX11_change (D + 1) 3 (zQi post px) 0 0 [.ref 19, .int x1, .int x2] [] M
  refine z_aload_n dX11_change_0 rfl ?_
  refine z_iload_n dX11_change_1 rfl ?_
  refine z_iload_n dX11_change_2 rfl ?_
  refine z_callVv (As := [.int x1, .int x2]) (st := []) dX11_change_3 zi_X11_231 rfl rfl zs_19 rfl rfl (Nat.le_of_ble_eq_true rfl) (by decide) (fun _ _ hx => hx) h ?_
  intro M1 h2
  refine z_aload_n dX11_change_6 rfl ?_
  refine z_getR dX11_change_7 zg_X11_42 zs_19 rfl ?_
  refine z_aload_n dX11_change_10 rfl ?_
  refine z_getR dX11_change_11 zg_X11_29 zs_19 rfl ?_
  refine z_callVv (As := [.ref 61]) (st := []) dX11_change_14 zi_X11_221 rfl rfl zs_59 rfl rfl (Nat.le_of_ble_eq_true rfl) (by decide) (fun _ _ hx => hx) h2 ?_
  intro M3 h4
  refine z_aload_n dX11_change_17 rfl ?_
  refine z_getR dX11_change_18 zg_X11_29 zs_19 rfl ?_
  refine z_getR dX11_change_21 zg_X11_139 zs_61 rfl ?_
  refine z_iload_n dX11_change_24 rfl ?_
  refine z_iload_n dX11_change_25 rfl ?_
  refine z_callVv (As := [.int x1, .int x2]) (st := []) dX11_change_26 zi_X11_235 rfl rfl zs_62 rfl rfl (Nat.le_of_ble_eq_true rfl) (by decide) (fun _ _ hx => hx) h4 ?_
  intro M5 h6
  refine z_aload_n dX11_change_29 rfl ?_
  refine z_getR dX11_change_30 zg_X11_29 zs_19 rfl ?_
  refine z_getR dX11_change_33 zg_X11_139 zs_61 rfl ?_
  refine z_getR dX11_change_36 zg_X11_158 zs_62 rfl ?_
  refine z_iload_n dX11_change_39 rfl ?_
  obtain ⟨g8, h7⟩ := h6
  refine z_iald dX11_change_40 zs_67 g8 ?_
  exact z_iret dX11_change_41 rfl rfl (by decide) h7
def w_X11_drink_16 (E : zEv) (D : Nat) (post : Int32 → zM → Prop) (px : String → zM → Prop)   (M : zM) : Prop := Z E jX11_drink (D + 1) 2 (zQi post px) 16 1 [zU, zU, zU] [] M
theorem e_X11_drink {E : zEv} {D : Nat} {post : Int32 → zM → Prop} {px : String → zM → Prop} {M : zM} {x1 : Int32} {x2 : Int32}  (h : zCv E jX11_needWitness D 1 [.ref 19, .int x1] M (fun M1 => ((x2 < (1 : Int32) → w_X11_drink_16 E D post px  M1) ∧ (¬ x2 < (1 : Int32) → ((x2 ≤ (99 : Int32) → zCv E jX5_remember D 0 [.ref 59, .ref 61] M1 (fun M9 => vp_in x1 5 ∧ vp_in x1 5 ∧ ∀ M15 : zM, M15 = zup M9 65 (x1).toNatClampNeg (zmin (99 : Int32) ((M9.1 65 (x1).toNatClampNeg) + x2)) → vp_in x1 5 ∧ post (M15.1 65 (x1).toNatClampNeg) M15) px) ∧ (¬ x2 ≤ (99 : Int32) → w_X11_drink_16 E D post px  M1))))) px) : zCi E jX11_drink (D + 1) 2 [.ref 19, .int x1, .int x2] M post px := by
  refine z_meth (by decide) (Nat.le_of_ble_eq_true rfl) ?_
  show Z E jX11_drink (D + 1) 2 (zQi post px) 0 0 [.ref 19, .int x1, .int x2] [] M
  refine z_aload_n dX11_drink_0 rfl ?_
  refine z_iload_n dX11_drink_1 rfl ?_
  refine z_callVv (As := [.int x1]) (st := []) dX11_drink_2 zi_X11_136 rfl rfl zs_19 rfl rfl (Nat.le_of_ble_eq_true rfl) (by decide) (fun _ _ hx => hx) h ?_
  intro M1 h2
  refine z_iload_n dX11_drink_5 rfl ?_
  refine z_iconst (v := (1 : Int32)) dX11_drink_6 rfl ?_
  refine z_icmp_lt (tgt := 16) dX11_drink_7 (by decide) (fun g3 => ?_) (fun g3 => ?_)
  · have h4 := h2.1 g3
    refine z_weak [false, false, false] (ls' := [zU, zU, zU]) rfl rfl ?_
    exact h4
  · have h5 := h2.2 g3
    refine z_iload_n dX11_drink_10 rfl ?_
    refine z_bipush (v := (99 : Int32)) dX11_drink_11 rfl ?_
    refine z_icmp_le (tgt := 26) dX11_drink_13 (by decide) (fun g6 => ?_) (fun g6 => ?_)
    · have h7 := h5.1 g6
      refine z_aload_n dX11_drink_26 rfl ?_
      refine z_getR dX11_drink_27 zg_X11_42 zs_19 rfl ?_
      refine z_aload_n dX11_drink_30 rfl ?_
      refine z_getR dX11_drink_31 zg_X11_29 zs_19 rfl ?_
      refine z_callVv (As := [.ref 61]) (st := []) dX11_drink_34 zi_X11_221 rfl rfl zs_59 rfl rfl (Nat.le_of_ble_eq_true rfl) (by decide) (fun _ _ hx => hx) h7 ?_
      intro M9 h10
      refine z_aload_n dX11_drink_37 rfl ?_
      refine z_getR dX11_drink_38 zg_X11_29 zs_19 rfl ?_
      refine z_getR dX11_drink_41 zg_X11_139 zs_61 rfl ?_
      refine z_getR dX11_drink_44 zg_X11_152 zs_62 rfl ?_
      refine z_iload_n dX11_drink_47 rfl ?_
      refine z_bipush (v := (99 : Int32)) dX11_drink_48 rfl ?_
      refine z_aload_n dX11_drink_50 rfl ?_
      refine z_getR dX11_drink_51 zg_X11_29 zs_19 rfl ?_
      refine z_getR dX11_drink_54 zg_X11_139 zs_61 rfl ?_
      refine z_getR dX11_drink_57 zg_X11_152 zs_62 rfl ?_
      refine z_iload_n dX11_drink_60 rfl ?_
      obtain ⟨g12, h11⟩ := h10
      refine z_iald dX11_drink_61 zs_65 g12 ?_
      refine z_iload_n dX11_drink_62 rfl ?_
      refine z_iadd dX11_drink_63 ?_
      refine z_min dX11_drink_64 zm_X11_240 (Nat.le_of_ble_eq_true rfl) (by decide) ?_
      obtain ⟨g14, h13⟩ := h11
      refine z_iast dX11_drink_67 zs_65 g14 ?_
      generalize hhM15 : zup M9 65 (x1).toNatClampNeg (zmin (99 : Int32) ((M9.1 65 (x1).toNatClampNeg) + x2)) = M15
      have h16 := h13 M15 hhM15.symm
      refine z_aload_n dX11_drink_68 rfl ?_
      refine z_getR dX11_drink_69 zg_X11_29 zs_19 rfl ?_
      refine z_getR dX11_drink_72 zg_X11_139 zs_61 rfl ?_
      refine z_getR dX11_drink_75 zg_X11_152 zs_62 rfl ?_
      refine z_iload_n dX11_drink_78 rfl ?_
      obtain ⟨g18, h17⟩ := h16
      refine z_iald dX11_drink_79 zs_65 g18 ?_
      exact z_iret dX11_drink_80 rfl rfl (by decide) h17
    · have h8 := h5.2 g6
      refine z_weak [false, false, false] (ls' := [zU, zU, zU]) rfl rfl ?_
      exact h8
theorem t_X11_drink_16 {E : zEv} {D : Nat} {post : Int32 → zM → Prop} {px : String → zM → Prop} {M : zM}    (h : px "java/lang/IllegalArgumentException" M) : w_X11_drink_16 E D post px  M := by
  show Z E jX11_drink (D + 1) 2 (zQi post px) 16 1 [zU, zU, zU] [] M
  exact z_throw zt_X11_106_238 dX11_drink_16 dX11_drink_19 dX11_drink_20 dX11_drink_22 dX11_drink_25 (Nat.le_of_ble_eq_true rfl) (by decide) h
def w_X11_heat_10 (E : zEv) (D : Nat) (post : Int32 → zM → Prop) (px : String → zM → Prop)   (M : zM) : Prop := Z E jX11_heat (D + 1) 1 (zQi post px) 10 0 [zU, zU, zU] [] M
theorem e_X11_heat {E : zEv} {D : Nat} {post : Int32 → zM → Prop} {px : String → zM → Prop} {M : zM} {x1 : Int32}  (h : ((x1 < 0 → w_X11_heat_10 E D post px  M) ∧ (¬ x1 < 0 → ((x1 ≤ (9 : Int32) → zCv E jX5_remember D 0 [.ref 59, .ref 61] M (fun M7 => ∀ M9 : zM, M9 = zup M7 61 11 x1 → post (M7.1 61 11) M9) px) ∧ (¬ x1 ≤ (9 : Int32) → w_X11_heat_10 E D post px  M))))) : zCi E jX11_heat (D + 1) 1 [.ref 19, .int x1] M post px := by
  refine z_meth (by decide) (Nat.le_of_ble_eq_true rfl) ?_
  show Z E jX11_heat (D + 1) 1 (zQi post px) 0 0 [.ref 19, .int x1, zU] [] M
  refine z_iload_n dX11_heat_0 rfl ?_
  refine z_if_lt (tgt := 10) dX11_heat_1 (by decide) (fun g1 => ?_) (fun g1 => ?_)
  · have h2 := h.1 g1
    refine z_weak [false, false, false] (ls' := [zU, zU, zU]) rfl rfl ?_
    exact h2
  · have h3 := h.2 g1
    refine z_iload_n dX11_heat_4 rfl ?_
    refine z_bipush (v := (9 : Int32)) dX11_heat_5 rfl ?_
    refine z_icmp_le (tgt := 20) dX11_heat_7 (by decide) (fun g4 => ?_) (fun g4 => ?_)
    · have h5 := h3.1 g4
      refine z_aload_n dX11_heat_20 rfl ?_
      refine z_getR dX11_heat_21 zg_X11_42 zs_19 rfl ?_
      refine z_aload_n dX11_heat_24 rfl ?_
      refine z_getR dX11_heat_25 zg_X11_29 zs_19 rfl ?_
      refine z_callVv (As := [.ref 61]) (st := []) dX11_heat_28 zi_X11_221 rfl rfl zs_59 rfl rfl (Nat.le_of_ble_eq_true rfl) (by decide) (fun _ _ hx => hx) h5 ?_
      intro M7 h8
      refine z_aload_n dX11_heat_31 rfl ?_
      refine z_getR dX11_heat_32 zg_X11_29 zs_19 rfl ?_
      refine z_getI dX11_heat_35 zg_X11_248 zs_61 rfl ?_
      refine z_istore_n dX11_heat_38 (by decide) (ls' := [.ref 19, .int x1, .int (M7.1 61 11)]) rfl ?_
      refine z_aload_n dX11_heat_39 rfl ?_
      refine z_getR dX11_heat_40 zg_X11_29 zs_19 rfl ?_
      refine z_iload_n dX11_heat_43 rfl ?_
      refine z_putI dX11_heat_44 zp_X11_248 zs_61 rfl rfl rfl ?_
      generalize hhM9 : zup M7 61 11 x1 = M9
      have h10 := h8 M9 hhM9.symm
      refine z_iload_n dX11_heat_47 rfl ?_
      exact z_iret dX11_heat_48 rfl rfl (by decide) h10
    · have h6 := h3.2 g4
      refine z_weak [false, false, false] (ls' := [zU, zU, zU]) rfl rfl ?_
      exact h6
theorem t_X11_heat_10 {E : zEv} {D : Nat} {post : Int32 → zM → Prop} {px : String → zM → Prop} {M : zM}    (h : px "java/lang/IllegalArgumentException" M) : w_X11_heat_10 E D post px  M := by
  show Z E jX11_heat (D + 1) 1 (zQi post px) 10 0 [zU, zU, zU] [] M
  exact z_throw zt_X11_106_246 dX11_heat_10 dX11_heat_13 dX11_heat_14 dX11_heat_16 dX11_heat_19 (Nat.le_of_ble_eq_true rfl) (by decide) h
def w_X11_tell_47 (E : zEv) (D : Nat) (post : Int32 → zM → Prop) (px : String → zM → Prop)  (y3 : Int32) (s0 : Int32) (M : zM) : Prop := Z E jX11_tell (D + 1) 1 (zQi post px) 47 1 [.ref 19, zU, zU, .int y3] [.int s0, .ref 61] M
def w_X11_tell_66 (E : zEv) (D : Nat) (post : Int32 → zM → Prop) (px : String → zM → Prop)  (s0 : Int32) (M : zM) : Prop := Z E jX11_tell (D + 1) 1 (zQi post px) 66 1 [zU, zU, zU, zU] [.int s0] M
theorem e_X11_tell {E : zEv} {D : Nat} {post : Int32 → zM → Prop} {px : String → zM → Prop} {M : zM} {x1 : Int32} {x2 : Int32}  (h : zCv E jX11_needThing D 1 [.ref 19, .int x1] M (fun M1 => zCv E jX5_remember D 0 [.ref 59, .ref 61] M1 (fun M3 => ((x2 = 0 → w_X11_tell_47 E D post px (M3.1 61 10) ((M3.1 61 10) &&& (((1 : Int32) <<< (x1 &&& 31)) ^^^ (-1 : Int32))) M3) ∧ (¬ x2 = 0 → w_X11_tell_47 E D post px (M3.1 61 10) ((M3.1 61 10) ||| ((1 : Int32) <<< (x1 &&& 31))) M3))) px) px) : zCi E jX11_tell (D + 1) 1 [.ref 19, .int x1, .int x2] M post px := by
  refine z_meth (by decide) (Nat.le_of_ble_eq_true rfl) ?_
  show Z E jX11_tell (D + 1) 1 (zQi post px) 0 0 [.ref 19, .int x1, .int x2, zU] [] M
  refine z_aload_n dX11_tell_0 rfl ?_
  refine z_iload_n dX11_tell_1 rfl ?_
  refine z_callVv (As := [.int x1]) (st := []) dX11_tell_2 zi_X11_180 rfl rfl zs_19 rfl rfl (Nat.le_of_ble_eq_true rfl) (by decide) (fun _ _ hx => hx) h ?_
  intro M1 h2
  refine z_aload_n dX11_tell_5 rfl ?_
  refine z_getR dX11_tell_6 zg_X11_42 zs_19 rfl ?_
  refine z_aload_n dX11_tell_9 rfl ?_
  refine z_getR dX11_tell_10 zg_X11_29 zs_19 rfl ?_
  refine z_callVv (As := [.ref 61]) (st := []) dX11_tell_13 zi_X11_221 rfl rfl zs_59 rfl rfl (Nat.le_of_ble_eq_true rfl) (by decide) (fun _ _ hx => hx) h2 ?_
  intro M3 h4
  refine z_aload_n dX11_tell_16 rfl ?_
  refine z_getR dX11_tell_17 zg_X11_29 zs_19 rfl ?_
  refine z_getI dX11_tell_20 zg_X11_189 zs_61 rfl ?_
  refine z_istore_n dX11_tell_23 (by decide) (ls' := [.ref 19, .int x1, .int x2, .int (M3.1 61 10)]) rfl ?_
  refine z_aload_n dX11_tell_24 rfl ?_
  refine z_getR dX11_tell_25 zg_X11_29 zs_19 rfl ?_
  refine z_iload_n dX11_tell_28 rfl ?_
  refine z_if_eq (tgt := 40) dX11_tell_29 (by decide) (fun g5 => ?_) (fun g5 => ?_)
  · have h6 := h4.1 g5
    refine z_iload_n dX11_tell_40 rfl ?_
    refine z_iconst (v := (1 : Int32)) dX11_tell_41 rfl ?_
    refine z_iload_n dX11_tell_42 rfl ?_
    refine z_ishl dX11_tell_43 ?_
    refine z_iconst (v := (-1 : Int32)) dX11_tell_44 rfl ?_
    refine z_ixor dX11_tell_45 ?_
    refine z_iand dX11_tell_46 ?_
    refine z_weak [true, false, false, true] (ls' := [.ref 19, zU, zU, .int (M3.1 61 10)]) rfl rfl ?_
    exact h6
  · have h7 := h4.2 g5
    refine z_iload_n dX11_tell_32 rfl ?_
    refine z_iconst (v := (1 : Int32)) dX11_tell_33 rfl ?_
    refine z_iload_n dX11_tell_34 rfl ?_
    refine z_ishl dX11_tell_35 ?_
    refine z_ior dX11_tell_36 ?_
    refine z_goto (tgt := 47) dX11_tell_37 (by decide) ?_
    refine z_weak [true, false, false, true] (ls' := [.ref 19, zU, zU, .int (M3.1 61 10)]) rfl rfl ?_
    exact h7
theorem t_X11_tell_47 {E : zEv} {D : Nat} {post : Int32 → zM → Prop} {px : String → zM → Prop} {M : zM}   {y3 : Int32} {s0 : Int32} (h : ∀ M1 : zM, M1 = zup M 61 10 s0 → (((M1.1 61 10) = y3 → w_X11_tell_66 E D post px (0 : Int32) M1) ∧ (¬ (M1.1 61 10) = y3 → w_X11_tell_66 E D post px (1 : Int32) M1))) : w_X11_tell_47 E D post px y3 s0 M := by
  show Z E jX11_tell (D + 1) 1 (zQi post px) 47 1 [.ref 19, zU, zU, .int y3] [.int s0, .ref 61] M
  refine z_putI dX11_tell_47 zp_X11_189 zs_61 rfl rfl rfl ?_
  generalize hhM1 : zup M 61 10 s0 = M1
  have h2 := h M1 hhM1.symm
  refine z_aload_n dX11_tell_50 rfl ?_
  refine z_getR dX11_tell_51 zg_X11_29 zs_19 rfl ?_
  refine z_getI dX11_tell_54 zg_X11_189 zs_61 rfl ?_
  refine z_iload_n dX11_tell_57 rfl ?_
  refine z_icmp_eq (tgt := 65) dX11_tell_58 (by decide) (fun g3 => ?_) (fun g3 => ?_)
  · have h4 := h2.1 g3
    refine z_iconst (v := (0 : Int32)) dX11_tell_65 rfl ?_
    refine z_weak [false, false, false, false] (ls' := [zU, zU, zU, zU]) rfl rfl ?_
    exact h4
  · have h5 := h2.2 g3
    refine z_iconst (v := (1 : Int32)) dX11_tell_61 rfl ?_
    refine z_goto (tgt := 66) dX11_tell_62 (by decide) ?_
    refine z_weak [false, false, false, false] (ls' := [zU, zU, zU, zU]) rfl rfl ?_
    exact h5
theorem t_X11_tell_66 {E : zEv} {D : Nat} {post : Int32 → zM → Prop} {px : String → zM → Prop} {M : zM}   {s0 : Int32} (h : (s0 = 0 ∨ s0 = 1) ∧ post s0 M) : w_X11_tell_66 E D post px s0 M := by
  show Z E jX11_tell (D + 1) 1 (zQi post px) 66 1 [zU, zU, zU, zU] [.int s0] M
  obtain ⟨g2, h1⟩ := h
  exact z_iret dX11_tell_66 rfl (zbool g2) (by decide) h1
theorem e_X11_words {E : zEv} {D : Nat} {post : Int32 → zM → Prop} {px : String → zM → Prop} {M : zM} {x1 : Int32} {x2 : Int32}  (h : zCv E jX11_needQuestion D 1 [.ref 19, .int x1] M (fun M1 => zCi E jX3_allThings D 0 [.ref 61] M1 (fun r5 M3 => ((¬ (x2 &&& r5) = 0 → zCv E jX5_remember D 0 [.ref 59, .ref 61] M3 (fun M9 => vp_in x1 8 ∧ vp_in x1 8 ∧ ∀ M15 : zM, M15 = zup M9 73 (x1).toNatClampNeg (x2 &&& r5) → post (M9.1 73 (x1).toNatClampNeg) M15) px) ∧ ((x2 &&& r5) = 0 → px "java/lang/IllegalArgumentException" M3))) px) px) : zCi E jX11_words (D + 1) 2 [.ref 19, .int x1, .int x2] M post px := by
  refine z_meth (by decide) (Nat.le_of_ble_eq_true rfl) ?_
  show Z E jX11_words (D + 1) 2 (zQi post px) 0 0 [.ref 19, .int x1, .int x2, zU, zU] [] M
  refine z_aload_n dX11_words_0 rfl ?_
  refine z_iload_n dX11_words_1 rfl ?_
  refine z_callVv (As := [.int x1]) (st := []) dX11_words_2 zi_X11_201 rfl rfl zs_19 rfl rfl (Nat.le_of_ble_eq_true rfl) (by decide) (fun _ _ hx => hx) h ?_
  intro M1 h2
  refine z_iload_n dX11_words_5 rfl ?_
  refine z_aload_n dX11_words_6 rfl ?_
  refine z_getR dX11_words_7 zg_X11_29 zs_19 rfl ?_
  refine z_callVi (As := []) (st := [.int x2]) dX11_words_10 zi_X11_251 rfl rfl zs_61 rfl rfl (Nat.le_of_ble_eq_true rfl) (by decide) (fun _ _ hx => hx) h2 ?_
  intro r5 M3 h4
  refine z_iand dX11_words_13 ?_
  refine z_istore_n dX11_words_14 (by decide) (ls' := [.ref 19, .int x1, .int x2, .int (x2 &&& r5), zU]) rfl ?_
  refine z_iload_n dX11_words_15 rfl ?_
  refine z_if_ne (tgt := 29) dX11_words_16 (by decide) (fun g6 => ?_) (fun g6 => ?_)
  · have h7 := h4.1 g6
    refine z_aload_n dX11_words_29 rfl ?_
    refine z_getR dX11_words_30 zg_X11_42 zs_19 rfl ?_
    refine z_aload_n dX11_words_33 rfl ?_
    refine z_getR dX11_words_34 zg_X11_29 zs_19 rfl ?_
    refine z_callVv (As := [.ref 61]) (st := []) dX11_words_37 zi_X11_221 rfl rfl zs_59 rfl rfl (Nat.le_of_ble_eq_true rfl) (by decide) (fun _ _ hx => hx) h7 ?_
    intro M9 h10
    refine z_aload_n dX11_words_40 rfl ?_
    refine z_getR dX11_words_41 zg_X11_29 zs_19 rfl ?_
    refine z_getR dX11_words_44 zg_X11_204 zs_61 rfl ?_
    refine z_iload_n dX11_words_47 rfl ?_
    obtain ⟨g12, h11⟩ := h10
    refine z_iald dX11_words_48 zs_73 g12 ?_
    refine z_istore dX11_words_49 (by decide) (ls' := [.ref 19, .int x1, .int x2, .int (x2 &&& r5), .int (M9.1 73 (x1).toNatClampNeg)]) rfl ?_
    refine z_aload_n dX11_words_51 rfl ?_
    refine z_getR dX11_words_52 zg_X11_29 zs_19 rfl ?_
    refine z_getR dX11_words_55 zg_X11_204 zs_61 rfl ?_
    refine z_iload_n dX11_words_58 rfl ?_
    refine z_iload_n dX11_words_59 rfl ?_
    obtain ⟨g14, h13⟩ := h11
    refine z_iast dX11_words_60 zs_73 g14 ?_
    generalize hhM15 : zup M9 73 (x1).toNatClampNeg (x2 &&& r5) = M15
    have h16 := h13 M15 hhM15.symm
    refine z_iload dX11_words_61 rfl ?_
    exact z_iret dX11_words_63 rfl rfl (by decide) h16
  · have h8 := h4.2 g6
    exact z_throw zt_X11_106_254 dX11_words_19 dX11_words_22 dX11_words_23 dX11_words_25 dX11_words_28 (Nat.le_of_ble_eq_true rfl) (by decide) h8
theorem e_X11_powder {E : zEv} {D : Nat} {post : Int32 → zM → Prop} {px : String → zM → Prop} {M : zM} {x1 : Int32}  (h : zCv E jX11_needWitness D 1 [.ref 19, .int x1] M (fun M1 => zCv E jX5_remember D 0 [.ref 59, .ref 61] M1 (fun M3 => vp_in x1 5 ∧ vp_in x1 5 ∧ ∀ M9 : zM, M9 = zup M3 66 (x1).toNatClampNeg (0 : Int32) → post (M3.1 66 (x1).toNatClampNeg) M9) px) px) : zCi E jX11_powder (D + 1) 1 [.ref 19, .int x1] M post px := by
  refine z_meth (by decide) (Nat.le_of_ble_eq_true rfl) ?_
  show Z E jX11_powder (D + 1) 1 (zQi post px) 0 0 [.ref 19, .int x1, zU] [] M
  refine z_aload_n dX11_powder_0 rfl ?_
  refine z_iload_n dX11_powder_1 rfl ?_
  refine z_callVv (As := [.int x1]) (st := []) dX11_powder_2 zi_X11_136 rfl rfl zs_19 rfl rfl (Nat.le_of_ble_eq_true rfl) (by decide) (fun _ _ hx => hx) h ?_
  intro M1 h2
  refine z_aload_n dX11_powder_5 rfl ?_
  refine z_getR dX11_powder_6 zg_X11_42 zs_19 rfl ?_
  refine z_aload_n dX11_powder_9 rfl ?_
  refine z_getR dX11_powder_10 zg_X11_29 zs_19 rfl ?_
  refine z_callVv (As := [.ref 61]) (st := []) dX11_powder_13 zi_X11_221 rfl rfl zs_59 rfl rfl (Nat.le_of_ble_eq_true rfl) (by decide) (fun _ _ hx => hx) h2 ?_
  intro M3 h4
  refine z_aload_n dX11_powder_16 rfl ?_
  refine z_getR dX11_powder_17 zg_X11_29 zs_19 rfl ?_
  refine z_getR dX11_powder_20 zg_X11_139 zs_61 rfl ?_
  refine z_getR dX11_powder_23 zg_X11_155 zs_62 rfl ?_
  refine z_iload_n dX11_powder_26 rfl ?_
  obtain ⟨g6, h5⟩ := h4
  refine z_iald dX11_powder_27 zs_66 g6 ?_
  refine z_istore_n dX11_powder_28 (by decide) (ls' := [.ref 19, .int x1, .int (M3.1 66 (x1).toNatClampNeg)]) rfl ?_
  refine z_aload_n dX11_powder_29 rfl ?_
  refine z_getR dX11_powder_30 zg_X11_29 zs_19 rfl ?_
  refine z_getR dX11_powder_33 zg_X11_139 zs_61 rfl ?_
  refine z_getR dX11_powder_36 zg_X11_155 zs_62 rfl ?_
  refine z_iload_n dX11_powder_39 rfl ?_
  refine z_iconst (v := (0 : Int32)) dX11_powder_40 rfl ?_
  obtain ⟨g8, h7⟩ := h5
  refine z_iast dX11_powder_41 zs_66 g8 ?_
  generalize hhM9 : zup M3 66 (x1).toNatClampNeg (0 : Int32) = M9
  have h10 := h7 M9 hhM9.symm
  refine z_iload_n dX11_powder_42 rfl ?_
  exact z_iret dX11_powder_43 rfl rfl (by decide) h10
theorem e_X11_rises {E : zEv} {D : Nat} {post : Int32 → zM → Prop} {px : String → zM → Prop} {M : zM} {x1 : Int32} {x2 : Int32}  (h : zCv E jX11_needQuestion D 1 [.ref 19, .int x1] M (fun M1 => zCv E jX11_needWitness D 1 [.ref 19, .int x2] M1 (fun M3 => zCv E jX1_raise D 0 [.ref 43, .ref 61, .int x1, .int (M3.1 61 10)] M3 (fun M5 => vp_in x2 5 ∧ post (M5.1 47 (x2).toNatClampNeg) M5) px) px) px) : zCi E jX11_rises (D + 1) 2 [.ref 19, .int x1, .int x2] M post px := by
  refine z_meth (by decide) (Nat.le_of_ble_eq_true rfl) ?_
  show Z E jX11_rises (D + 1) 2 (zQi post px) 0 0 [.ref 19, .int x1, .int x2] [] M
  refine z_aload_n dX11_rises_0 rfl ?_
  refine z_iload_n dX11_rises_1 rfl ?_
  refine z_callVv (As := [.int x1]) (st := []) dX11_rises_2 zi_X11_201 rfl rfl zs_19 rfl rfl (Nat.le_of_ble_eq_true rfl) (by decide) (fun _ _ hx => hx) h ?_
  intro M1 h2
  refine z_aload_n dX11_rises_5 rfl ?_
  refine z_iload_n dX11_rises_6 rfl ?_
  refine z_callVv (As := [.int x2]) (st := []) dX11_rises_7 zi_X11_136 rfl rfl zs_19 rfl rfl (Nat.le_of_ble_eq_true rfl) (by decide) (fun _ _ hx => hx) h2 ?_
  intro M3 h4
  refine z_aload_n dX11_rises_10 rfl ?_
  refine z_getR dX11_rises_11 zg_X11_49 zs_19 rfl ?_
  refine z_aload_n dX11_rises_14 rfl ?_
  refine z_getR dX11_rises_15 zg_X11_29 zs_19 rfl ?_
  refine z_iload_n dX11_rises_18 rfl ?_
  refine z_aload_n dX11_rises_19 rfl ?_
  refine z_getR dX11_rises_20 zg_X11_29 zs_19 rfl ?_
  refine z_getI dX11_rises_23 zg_X11_189 zs_61 rfl ?_
  refine z_callVv (As := [.ref 61, .int x1, .int (M3.1 61 10)]) (st := []) dX11_rises_26 zi_X11_256 rfl rfl zs_43 rfl rfl (Nat.le_of_ble_eq_true rfl) (by decide) (fun _ _ hx => hx) h4 ?_
  intro M5 h6
  refine z_aload_n dX11_rises_29 rfl ?_
  refine z_getR dX11_rises_30 zg_X11_49 zs_19 rfl ?_
  refine z_getR dX11_rises_33 zg_X11_260 zs_43 rfl ?_
  refine z_iload_n dX11_rises_36 rfl ?_
  obtain ⟨g8, h7⟩ := h6
  refine z_iald dX11_rises_37 zs_47 g8 ?_
  exact z_iret dX11_rises_38 rfl rfl (by decide) h7
def w_X11_seen_34 (E : zEv) (D : Nat) (post : Int32 → zM → Prop) (px : String → zM → Prop)  (y2 : Int32) (y3 : Int32) (y4 : Int32) (M : zM) : Prop := Z E jX11_seen (D + 1) 2 (zQi post px) 34 2 [.ref 19, zU, .int y2, .int y3, .int y4] [] M
def w_X11_seen_73 (E : zEv) (D : Nat) (post : Int32 → zM → Prop) (px : String → zM → Prop)  (y2 : Int32) (y3 : Int32) (y4 : Int32) (M : zM) : Prop := Z E jX11_seen (D + 1) 2 (zQi post px) 73 2 [.ref 19, zU, .int y2, .int y3, .int y4] [] M
theorem e_X11_seen {E : zEv} {D : Nat} {post : Int32 → zM → Prop} {px : String → zM → Prop} {M : zM} {x1 : Int32} {x2 : Int32}  (h : zCv E jX11_needQuestion D 1 [.ref 19, .int x1] M (fun M1 => zCv E jX11_needWoman D 1 [.ref 19, .int x2] M1 (fun M3 => zCv E jX1_raise D 0 [.ref 43, .ref 61, .int x1, .int (M3.1 61 10)] M3 (fun M5 => w_X11_seen_34 E D post px x2 (0 : Int32) (0 : Int32) M5) px) px) px) : zCi E jX11_seen (D + 1) 2 [.ref 19, .int x1, .int x2] M post px := by
  refine z_meth (by decide) (Nat.le_of_ble_eq_true rfl) ?_
  show Z E jX11_seen (D + 1) 2 (zQi post px) 0 0 [.ref 19, .int x1, .int x2, zU, zU] [] M
  refine z_aload_n dX11_seen_0 rfl ?_
  refine z_iload_n dX11_seen_1 rfl ?_
  refine z_callVv (As := [.int x1]) (st := []) dX11_seen_2 zi_X11_201 rfl rfl zs_19 rfl rfl (Nat.le_of_ble_eq_true rfl) (by decide) (fun _ _ hx => hx) h ?_
  intro M1 h2
  refine z_aload_n dX11_seen_5 rfl ?_
  refine z_iload_n dX11_seen_6 rfl ?_
  refine z_callVv (As := [.int x2]) (st := []) dX11_seen_7 zi_X11_207 rfl rfl zs_19 rfl rfl (Nat.le_of_ble_eq_true rfl) (by decide) (fun _ _ hx => hx) h2 ?_
  intro M3 h4
  refine z_aload_n dX11_seen_10 rfl ?_
  refine z_getR dX11_seen_11 zg_X11_49 zs_19 rfl ?_
  refine z_aload_n dX11_seen_14 rfl ?_
  refine z_getR dX11_seen_15 zg_X11_29 zs_19 rfl ?_
  refine z_iload_n dX11_seen_18 rfl ?_
  refine z_aload_n dX11_seen_19 rfl ?_
  refine z_getR dX11_seen_20 zg_X11_29 zs_19 rfl ?_
  refine z_getI dX11_seen_23 zg_X11_189 zs_61 rfl ?_
  refine z_callVv (As := [.ref 61, .int x1, .int (M3.1 61 10)]) (st := []) dX11_seen_26 zi_X11_256 rfl rfl zs_43 rfl rfl (Nat.le_of_ble_eq_true rfl) (by decide) (fun _ _ hx => hx) h4 ?_
  intro M5 h6
  refine z_iconst (v := (0 : Int32)) dX11_seen_29 rfl ?_
  refine z_istore_n dX11_seen_30 (by decide) (ls' := [.ref 19, .int x1, .int x2, .int (0 : Int32), zU]) rfl ?_
  refine z_iconst (v := (0 : Int32)) dX11_seen_31 rfl ?_
  refine z_istore dX11_seen_32 (by decide) (ls' := [.ref 19, .int x1, .int x2, .int (0 : Int32), .int (0 : Int32)]) rfl ?_
  refine z_weak [true, false, true, true, true] (ls' := [.ref 19, zU, .int x2, .int (0 : Int32), .int (0 : Int32)]) rfl rfl ?_
  exact h6
theorem t_X11_seen_34 {E : zEv} {D : Nat} {post : Int32 → zM → Prop} {px : String → zM → Prop} {M : zM}   {y2 : Int32} {y3 : Int32} {y4 : Int32} (h : (((M.1 62 6) ≤ y4 → post y3 M) ∧ (¬ (M.1 62 6) ≤ y4 → zCi E jX1_isSeen D 0 [.ref 43, .ref 61, .int y2, .int y4] M (fun r6 M4 => ((r6 = 0 → w_X11_seen_73 E D post px y2 y3 y4 M4) ∧ (¬ r6 = 0 → w_X11_seen_73 E D post px y2 (y3 ||| ((1 : Int32) <<< (y4 &&& 31))) y4 M4))) px))) : w_X11_seen_34 E D post px y2 y3 y4 M := by
  show Z E jX11_seen (D + 1) 2 (zQi post px) 34 2 [.ref 19, zU, .int y2, .int y3, .int y4] [] M
  refine z_iload dX11_seen_34 rfl ?_
  refine z_aload_n dX11_seen_36 rfl ?_
  refine z_getR dX11_seen_37 zg_X11_29 zs_19 rfl ?_
  refine z_getR dX11_seen_40 zg_X11_139 zs_61 rfl ?_
  refine z_getI dX11_seen_43 zg_X11_263 zs_62 rfl ?_
  refine z_icmp_ge (tgt := 79) dX11_seen_46 (by decide) (fun g1 => ?_) (fun g1 => ?_)
  · have h2 := h.1 g1
    refine z_iload_n dX11_seen_79 rfl ?_
    exact z_iret dX11_seen_80 rfl rfl (by decide) h2
  · have h3 := h.2 g1
    refine z_aload_n dX11_seen_49 rfl ?_
    refine z_getR dX11_seen_50 zg_X11_49 zs_19 rfl ?_
    refine z_aload_n dX11_seen_53 rfl ?_
    refine z_getR dX11_seen_54 zg_X11_29 zs_19 rfl ?_
    refine z_iload_n dX11_seen_57 rfl ?_
    refine z_iload dX11_seen_58 rfl ?_
    refine z_callVi (As := [.ref 61, .int y2, .int y4]) (st := []) dX11_seen_60 zi_X11_266 rfl rfl zs_43 rfl rfl (Nat.le_of_ble_eq_true rfl) (by decide) (fun _ _ hx => hx) h3 ?_
    intro r6 M4 h5
    refine z_if_eq (tgt := 73) dX11_seen_63 (by decide) (fun g7 => ?_) (fun g7 => ?_)
    · have h8 := h5.1 g7
      exact h8
    · have h9 := h5.2 g7
      refine z_iload_n dX11_seen_66 rfl ?_
      refine z_iconst (v := (1 : Int32)) dX11_seen_67 rfl ?_
      refine z_iload dX11_seen_68 rfl ?_
      refine z_ishl dX11_seen_70 ?_
      refine z_ior dX11_seen_71 ?_
      refine z_istore_n dX11_seen_72 (by decide) (ls' := [.ref 19, zU, .int y2, .int (y3 ||| ((1 : Int32) <<< (y4 &&& 31))), .int y4]) rfl ?_
      exact h9
theorem t_X11_seen_73 {E : zEv} {D : Nat} {post : Int32 → zM → Prop} {px : String → zM → Prop} {M : zM}   {y2 : Int32} {y3 : Int32} {y4 : Int32} (h : w_X11_seen_34 E D post px y2 y3 (y4 + (1 : Int32)) M) : w_X11_seen_73 E D post px y2 y3 y4 M := by
  show Z E jX11_seen (D + 1) 2 (zQi post px) 73 2 [.ref 19, zU, .int y2, .int y3, .int y4] [] M
  refine z_iinc dX11_seen_73 rfl (by decide) (ls' := [.ref 19, zU, .int y2, .int y3, .int (y4 + (1 : Int32))]) rfl ?_
  refine z_goto (tgt := 34) dX11_seen_76 (by decide) ?_
  exact h
def w_X11_gives_28 (E : zEv) (D : Nat) (post : Int32 → zM → Prop) (px : String → zM → Prop)  (y2 : Int32) (y3 : Int32) (M : zM) : Prop := Z E jX11_gives (D + 1) 1 (zQi post px) 28 1 [.ref 19, zU, .int y2, .int y3] [] M
def w_X11_gives_59 (E : zEv) (D : Nat) (post : Int32 → zM → Prop) (px : String → zM → Prop)  (y2 : Int32) (y3 : Int32) (M : zM) : Prop := Z E jX11_gives (D + 1) 1 (zQi post px) 59 1 [.ref 19, zU, .int y2, .int y3] [] M
theorem e_X11_gives {E : zEv} {D : Nat} {post : Int32 → zM → Prop} {px : String → zM → Prop} {M : zM} {x1 : Int32}  (h : zCv E jX11_needQuestion D 1 [.ref 19, .int x1] M (fun M1 => zCv E jX1_raise D 0 [.ref 43, .ref 61, .int x1, .int (M1.1 61 10)] M1 (fun M3 => w_X11_gives_28 E D post px (0 : Int32) (0 : Int32) M3) px) px) : zCi E jX11_gives (D + 1) 1 [.ref 19, .int x1] M post px := by
  refine z_meth (by decide) (Nat.le_of_ble_eq_true rfl) ?_
  show Z E jX11_gives (D + 1) 1 (zQi post px) 0 0 [.ref 19, .int x1, zU, zU] [] M
  refine z_aload_n dX11_gives_0 rfl ?_
  refine z_iload_n dX11_gives_1 rfl ?_
  refine z_callVv (As := [.int x1]) (st := []) dX11_gives_2 zi_X11_201 rfl rfl zs_19 rfl rfl (Nat.le_of_ble_eq_true rfl) (by decide) (fun _ _ hx => hx) h ?_
  intro M1 h2
  refine z_aload_n dX11_gives_5 rfl ?_
  refine z_getR dX11_gives_6 zg_X11_49 zs_19 rfl ?_
  refine z_aload_n dX11_gives_9 rfl ?_
  refine z_getR dX11_gives_10 zg_X11_29 zs_19 rfl ?_
  refine z_iload_n dX11_gives_13 rfl ?_
  refine z_aload_n dX11_gives_14 rfl ?_
  refine z_getR dX11_gives_15 zg_X11_29 zs_19 rfl ?_
  refine z_getI dX11_gives_18 zg_X11_189 zs_61 rfl ?_
  refine z_callVv (As := [.ref 61, .int x1, .int (M1.1 61 10)]) (st := []) dX11_gives_21 zi_X11_256 rfl rfl zs_43 rfl rfl (Nat.le_of_ble_eq_true rfl) (by decide) (fun _ _ hx => hx) h2 ?_
  intro M3 h4
  refine z_iconst (v := (0 : Int32)) dX11_gives_24 rfl ?_
  refine z_istore_n dX11_gives_25 (by decide) (ls' := [.ref 19, .int x1, .int (0 : Int32), zU]) rfl ?_
  refine z_iconst (v := (0 : Int32)) dX11_gives_26 rfl ?_
  refine z_istore_n dX11_gives_27 (by decide) (ls' := [.ref 19, .int x1, .int (0 : Int32), .int (0 : Int32)]) rfl ?_
  refine z_weak [true, false, true, true] (ls' := [.ref 19, zU, .int (0 : Int32), .int (0 : Int32)]) rfl rfl ?_
  exact h4
theorem t_X11_gives_28 {E : zEv} {D : Nat} {post : Int32 → zM → Prop} {px : String → zM → Prop} {M : zM}   {y2 : Int32} {y3 : Int32} (h : (((M.1 62 6) ≤ y3 → post y2 M) ∧ (¬ (M.1 62 6) ≤ y3 → zCi E jX1_givesAway D 0 [.ref 43, .int y3] M (fun r6 M4 => ((r6 = 0 → w_X11_gives_59 E D post px y2 y3 M4) ∧ (¬ r6 = 0 → w_X11_gives_59 E D post px (y2 ||| ((1 : Int32) <<< (y3 &&& 31))) y3 M4))) px))) : w_X11_gives_28 E D post px y2 y3 M := by
  show Z E jX11_gives (D + 1) 1 (zQi post px) 28 1 [.ref 19, zU, .int y2, .int y3] [] M
  refine z_iload_n dX11_gives_28 rfl ?_
  refine z_aload_n dX11_gives_29 rfl ?_
  refine z_getR dX11_gives_30 zg_X11_29 zs_19 rfl ?_
  refine z_getR dX11_gives_33 zg_X11_139 zs_61 rfl ?_
  refine z_getI dX11_gives_36 zg_X11_263 zs_62 rfl ?_
  refine z_icmp_ge (tgt := 65) dX11_gives_39 (by decide) (fun g1 => ?_) (fun g1 => ?_)
  · have h2 := h.1 g1
    refine z_iload_n dX11_gives_65 rfl ?_
    exact z_iret dX11_gives_66 rfl rfl (by decide) h2
  · have h3 := h.2 g1
    refine z_aload_n dX11_gives_42 rfl ?_
    refine z_getR dX11_gives_43 zg_X11_49 zs_19 rfl ?_
    refine z_iload_n dX11_gives_46 rfl ?_
    refine z_callVi (As := [.int y3]) (st := []) dX11_gives_47 zi_X11_270 rfl rfl zs_43 rfl rfl (Nat.le_of_ble_eq_true rfl) (by decide) (fun _ _ hx => hx) h3 ?_
    intro r6 M4 h5
    refine z_if_eq (tgt := 59) dX11_gives_50 (by decide) (fun g7 => ?_) (fun g7 => ?_)
    · have h8 := h5.1 g7
      exact h8
    · have h9 := h5.2 g7
      refine z_iload_n dX11_gives_53 rfl ?_
      refine z_iconst (v := (1 : Int32)) dX11_gives_54 rfl ?_
      refine z_iload_n dX11_gives_55 rfl ?_
      refine z_ishl dX11_gives_56 ?_
      refine z_ior dX11_gives_57 ?_
      refine z_istore_n dX11_gives_58 (by decide) (ls' := [.ref 19, zU, .int (y2 ||| ((1 : Int32) <<< (y3 &&& 31))), .int y3]) rfl ?_
      exact h9
theorem t_X11_gives_59 {E : zEv} {D : Nat} {post : Int32 → zM → Prop} {px : String → zM → Prop} {M : zM}   {y2 : Int32} {y3 : Int32} (h : w_X11_gives_28 E D post px y2 (y3 + (1 : Int32)) M) : w_X11_gives_59 E D post px y2 y3 M := by
  show Z E jX11_gives (D + 1) 1 (zQi post px) 59 1 [.ref 19, zU, .int y2, .int y3] [] M
  refine z_iinc dX11_gives_59 rfl (by decide) (ls' := [.ref 19, zU, .int y2, .int (y3 + (1 : Int32))]) rfl ?_
  refine z_goto (tgt := 28) dX11_gives_62 (by decide) ?_
  exact h
theorem e_X11_writes {E : zEv} {D : Nat} {post : Int32 → zM → Prop} {px : String → zM → Prop} {M : zM} {x1 : Int32} {x2 : Int32}  (h : zCv E jX11_needWoman D 1 [.ref 19, .int x1] M (fun M1 => zCv E jX11_needWitness D 1 [.ref 19, .int x2] M1 (fun M3 => vp_in x1 4 ∧ vp_in x2 5 ∧ zCi E jX11_readBy D 0 [.int (M3.1 74 (x1).toNatClampNeg), .int (M3.1 66 (x2).toNatClampNeg)] M3 (fun r11 M9 => post r11 M9) px) px) px) : zCi E jX11_writes (D + 1) 2 [.ref 19, .int x1, .int x2] M post px := by
  refine z_meth (by decide) (Nat.le_of_ble_eq_true rfl) ?_
  show Z E jX11_writes (D + 1) 2 (zQi post px) 0 0 [.ref 19, .int x1, .int x2] [] M
  refine z_aload_n dX11_writes_0 rfl ?_
  refine z_iload_n dX11_writes_1 rfl ?_
  refine z_callVv (As := [.int x1]) (st := []) dX11_writes_2 zi_X11_207 rfl rfl zs_19 rfl rfl (Nat.le_of_ble_eq_true rfl) (by decide) (fun _ _ hx => hx) h ?_
  intro M1 h2
  refine z_aload_n dX11_writes_5 rfl ?_
  refine z_iload_n dX11_writes_6 rfl ?_
  refine z_callVv (As := [.int x2]) (st := []) dX11_writes_7 zi_X11_136 rfl rfl zs_19 rfl rfl (Nat.le_of_ble_eq_true rfl) (by decide) (fun _ _ hx => hx) h2 ?_
  intro M3 h4
  refine z_aload_n dX11_writes_10 rfl ?_
  refine z_getR dX11_writes_11 zg_X11_29 zs_19 rfl ?_
  refine z_getR dX11_writes_14 zg_X11_210 zs_61 rfl ?_
  refine z_iload_n dX11_writes_17 rfl ?_
  obtain ⟨g6, h5⟩ := h4
  refine z_iald dX11_writes_18 zs_74 g6 ?_
  refine z_aload_n dX11_writes_19 rfl ?_
  refine z_getR dX11_writes_20 zg_X11_29 zs_19 rfl ?_
  refine z_getR dX11_writes_23 zg_X11_139 zs_61 rfl ?_
  refine z_getR dX11_writes_26 zg_X11_155 zs_62 rfl ?_
  refine z_iload_n dX11_writes_29 rfl ?_
  obtain ⟨g8, h7⟩ := h5
  refine z_iald dX11_writes_30 zs_66 g8 ?_
  refine z_callSi (As := [.int (M3.1 74 (x1).toNatClampNeg), .int (M3.1 66 (x2).toNatClampNeg)]) (st := []) dX11_writes_31 zi_X11_274 rfl rfl (Nat.le_of_ble_eq_true rfl) (by decide) (fun _ _ hx => hx) h7 ?_
  intro r11 M9 h10
  exact z_iret dX11_writes_34 rfl rfl (by decide) h10
def w_X11_pale_13 (E : zEv) (D : Nat) (post : Int32 → zM → Prop) (px : String → zM → Prop)  (y1 : Int32) (M : zM) : Prop := Z E jX11_pale (D + 1) 0 (zQi post px) 13 0 [.ref 19, .int y1] [] M
theorem e_X11_pale {E : zEv} {D : Nat} {post : Int32 → zM → Prop} {px : String → zM → Prop} {M : zM}   (h : zCv E jX3_copy D 0 [.ref 75, .ref 61] M (fun M1 => w_X11_pale_13 E D post px (0 : Int32) M1) px) : zCi E jX11_pale (D + 1) 0 [.ref 19] M post px := by
  refine z_meth (by decide) (Nat.le_of_ble_eq_true rfl) ?_
  show Z E jX11_pale (D + 1) 0 (zQi post px) 0 0 [.ref 19, zU] [] M
  refine z_aload_n dX11_pale_0 rfl ?_
  refine z_getR dX11_pale_1 zg_X11_33 zs_19 rfl ?_
  refine z_aload_n dX11_pale_4 rfl ?_
  refine z_getR dX11_pale_5 zg_X11_29 zs_19 rfl ?_
  refine z_callVv (As := [.ref 61]) (st := []) dX11_pale_8 zi_X11_89 rfl rfl zs_75 rfl rfl (Nat.le_of_ble_eq_true rfl) (by decide) (fun _ _ hx => hx) h ?_
  intro M1 h2
  refine z_iconst (v := (0 : Int32)) dX11_pale_11 rfl ?_
  refine z_istore_n dX11_pale_12 (by decide) (ls' := [.ref 19, .int (0 : Int32)]) rfl ?_
  exact h2
theorem t_X11_pale_13 {E : zEv} {D : Nat} {post : Int32 → zM → Prop} {px : String → zM → Prop} {M : zM}   {y1 : Int32} (h : (((60 : Int32) < y1 → post (-1 : Int32) M) ∧ (¬ (60 : Int32) < y1 → zCi E jX8_allShades D 0 [.ref 76] M (fun r6 M4 => ((¬ r6 = 0 → zCv E jX1_fall D 0 [.ref 43, .ref 75] M4 (fun M10 => w_X11_pale_13 E D post px (y1 + (1 : Int32)) M10) px) ∧ (r6 = 0 → post y1 M4))) px))) : w_X11_pale_13 E D post px y1 M := by
  show Z E jX11_pale (D + 1) 0 (zQi post px) 13 0 [.ref 19, .int y1] [] M
  refine z_iload_n dX11_pale_13 rfl ?_
  refine z_bipush (v := (60 : Int32)) dX11_pale_14 rfl ?_
  refine z_icmp_gt (tgt := 51) dX11_pale_16 (by decide) (fun g1 => ?_) (fun g1 => ?_)
  · have h2 := h.1 g1
    refine z_iconst (v := (-1 : Int32)) dX11_pale_51 rfl ?_
    exact z_iret dX11_pale_52 rfl rfl (by decide) h2
  · have h3 := h.2 g1
    refine z_aload_n dX11_pale_19 rfl ?_
    refine z_getR dX11_pale_20 zg_X11_33 zs_19 rfl ?_
    refine z_getR dX11_pale_23 zg_X11_139 zs_75 rfl ?_
    refine z_callVi (As := []) (st := []) dX11_pale_26 zi_X11_277 rfl rfl zs_76 rfl rfl (Nat.le_of_ble_eq_true rfl) (by decide) (fun _ _ hx => hx) h3 ?_
    intro r6 M4 h5
    refine z_if_ne (tgt := 34) dX11_pale_29 (by decide) (fun g7 => ?_) (fun g7 => ?_)
    · have h8 := h5.1 g7
      refine z_aload_n dX11_pale_34 rfl ?_
      refine z_getR dX11_pale_35 zg_X11_49 zs_19 rfl ?_
      refine z_aload_n dX11_pale_38 rfl ?_
      refine z_getR dX11_pale_39 zg_X11_33 zs_19 rfl ?_
      refine z_callVv (As := [.ref 75]) (st := []) dX11_pale_42 zi_X11_280 rfl rfl zs_43 rfl rfl (Nat.le_of_ble_eq_true rfl) (by decide) (fun _ _ hx => hx) h8 ?_
      intro M10 h11
      refine z_iinc dX11_pale_45 rfl (by decide) (ls' := [.ref 19, .int (y1 + (1 : Int32))]) rfl ?_
      refine z_goto (tgt := 13) dX11_pale_48 (by decide) ?_
      exact h11
    · have h9 := h5.2 g7
      refine z_iload_n dX11_pale_32 rfl ?_
      exact z_iret dX11_pale_33 rfl rfl (by decide) h9
def w_X11_reddest_15 (E : zEv) (D : Nat) (post : Int32 → zM → Prop) (px : String → zM → Prop)  (y2 : Int32) (y3 : Int32) (M : zM) : Prop := Z E jX11_reddest D 0 (zQi post px) 15 0 [.ref 19, .ref 66, .int y2, .int y3] [] M
def w_X11_reddest_43 (E : zEv) (D : Nat) (post : Int32 → zM → Prop) (px : String → zM → Prop)  (y3 : Int32) (M : zM) : Prop := Z E jX11_reddest D 0 (zQi post px) 43 0 [.ref 19, .ref 66, zU, .int y3] [] M
def w_X11_reddest_45 (E : zEv) (D : Nat) (post : Int32 → zM → Prop) (px : String → zM → Prop)  (y2 : Int32) (y3 : Int32) (M : zM) : Prop := Z E jX11_reddest D 0 (zQi post px) 45 0 [.ref 19, .ref 66, .int y2, .int y3] [] M
theorem e_X11_reddest {E : zEv} {D : Nat} {post : Int32 → zM → Prop} {px : String → zM → Prop} {M : zM}   (h : w_X11_reddest_15 E D post px (-1 : Int32) (0 : Int32) M) : zCi E jX11_reddest D 0 [.ref 19] M post px := by
  refine z_meth (by decide) (Nat.le_of_ble_eq_true rfl) ?_
  show Z E jX11_reddest D 0 (zQi post px) 0 0 [.ref 19, zU, zU, zU] [] M
  refine z_aload_n dX11_reddest_0 rfl ?_
  refine z_getR dX11_reddest_1 zg_X11_29 zs_19 rfl ?_
  refine z_getR dX11_reddest_4 zg_X11_139 zs_61 rfl ?_
  refine z_getR dX11_reddest_7 zg_X11_155 zs_62 rfl ?_
  refine z_astore_n dX11_reddest_10 (by decide) (ls' := [.ref 19, .ref 66, zU, zU]) rfl ?_
  refine z_iconst (v := (-1 : Int32)) dX11_reddest_11 rfl ?_
  refine z_istore_n dX11_reddest_12 (by decide) (ls' := [.ref 19, .ref 66, .int (-1 : Int32), zU]) rfl ?_
  refine z_iconst (v := (0 : Int32)) dX11_reddest_13 rfl ?_
  refine z_istore_n dX11_reddest_14 (by decide) (ls' := [.ref 19, .ref 66, .int (-1 : Int32), .int (0 : Int32)]) rfl ?_
  exact h
theorem t_X11_reddest_15 {E : zEv} {D : Nat} {post : Int32 → zM → Prop} {px : String → zM → Prop} {M : zM}   {y2 : Int32} {y3 : Int32} (h : (((M.1 62 6) ≤ y3 → post y2 M) ∧ (¬ (M.1 62 6) ≤ y3 → ((y2 = (-1 : Int32) → w_X11_reddest_43 E D post px y3 M) ∧ (¬ y2 = (-1 : Int32) → vp_in y3 5 ∧ vp_in y2 5 ∧ (((M.1 66 (y3).toNatClampNeg) ≤ (M.1 66 (y2).toNatClampNeg) → w_X11_reddest_45 E D post px y2 y3 M) ∧ (¬ (M.1 66 (y3).toNatClampNeg) ≤ (M.1 66 (y2).toNatClampNeg) → w_X11_reddest_43 E D post px y3 M))))))) : w_X11_reddest_15 E D post px y2 y3 M := by
  show Z E jX11_reddest D 0 (zQi post px) 15 0 [.ref 19, .ref 66, .int y2, .int y3] [] M
  refine z_iload_n dX11_reddest_15 rfl ?_
  refine z_aload_n dX11_reddest_16 rfl ?_
  refine z_getR dX11_reddest_17 zg_X11_29 zs_19 rfl ?_
  refine z_getR dX11_reddest_20 zg_X11_139 zs_61 rfl ?_
  refine z_getI dX11_reddest_23 zg_X11_263 zs_62 rfl ?_
  refine z_icmp_ge (tgt := 51) dX11_reddest_26 (by decide) (fun g1 => ?_) (fun g1 => ?_)
  · have h2 := h.1 g1
    refine z_iload_n dX11_reddest_51 rfl ?_
    exact z_iret dX11_reddest_52 rfl rfl (by decide) h2
  · have h3 := h.2 g1
    refine z_iload_n dX11_reddest_29 rfl ?_
    refine z_iconst (v := (-1 : Int32)) dX11_reddest_30 rfl ?_
    refine z_icmp_eq (tgt := 43) dX11_reddest_31 (by decide) (fun g4 => ?_) (fun g4 => ?_)
    · have h5 := h3.1 g4
      refine z_weak [true, true, false, true] (ls' := [.ref 19, .ref 66, zU, .int y3]) rfl rfl ?_
      exact h5
    · have h6 := h3.2 g4
      refine z_aload_n dX11_reddest_34 rfl ?_
      refine z_iload_n dX11_reddest_35 rfl ?_
      obtain ⟨g8, h7⟩ := h6
      refine z_iald dX11_reddest_36 zs_66 g8 ?_
      refine z_aload_n dX11_reddest_37 rfl ?_
      refine z_iload_n dX11_reddest_38 rfl ?_
      obtain ⟨g10, h9⟩ := h7
      refine z_iald dX11_reddest_39 zs_66 g10 ?_
      refine z_icmp_le (tgt := 45) dX11_reddest_40 (by decide) (fun g11 => ?_) (fun g11 => ?_)
      · have h12 := h9.1 g11
        exact h12
      · have h13 := h9.2 g11
        refine z_weak [true, true, false, true] (ls' := [.ref 19, .ref 66, zU, .int y3]) rfl rfl ?_
        exact h13
theorem t_X11_reddest_43 {E : zEv} {D : Nat} {post : Int32 → zM → Prop} {px : String → zM → Prop} {M : zM}   {y3 : Int32} (h : w_X11_reddest_45 E D post px y3 y3 M) : w_X11_reddest_43 E D post px y3 M := by
  show Z E jX11_reddest D 0 (zQi post px) 43 0 [.ref 19, .ref 66, zU, .int y3] [] M
  refine z_iload_n dX11_reddest_43 rfl ?_
  refine z_istore_n dX11_reddest_44 (by decide) (ls' := [.ref 19, .ref 66, .int y3, .int y3]) rfl ?_
  exact h
theorem t_X11_reddest_45 {E : zEv} {D : Nat} {post : Int32 → zM → Prop} {px : String → zM → Prop} {M : zM}   {y2 : Int32} {y3 : Int32} (h : w_X11_reddest_15 E D post px y2 (y3 + (1 : Int32)) M) : w_X11_reddest_45 E D post px y2 y3 M := by
  show Z E jX11_reddest D 0 (zQi post px) 45 0 [.ref 19, .ref 66, .int y2, .int y3] [] M
  refine z_iinc dX11_reddest_45 rfl (by decide) (ls' := [.ref 19, .ref 66, .int y2, .int (y3 + (1 : Int32))]) rfl ?_
  refine z_goto (tgt := 15) dX11_reddest_48 (by decide) ?_
  exact h
def w_X11_palest_15 (E : zEv) (D : Nat) (post : Int32 → zM → Prop) (px : String → zM → Prop)  (y2 : Int32) (y3 : Int32) (M : zM) : Prop := Z E jX11_palest D 0 (zQi post px) 15 0 [.ref 19, .ref 66, .int y2, .int y3] [] M
def w_X11_palest_43 (E : zEv) (D : Nat) (post : Int32 → zM → Prop) (px : String → zM → Prop)  (y3 : Int32) (M : zM) : Prop := Z E jX11_palest D 0 (zQi post px) 43 0 [.ref 19, .ref 66, zU, .int y3] [] M
def w_X11_palest_45 (E : zEv) (D : Nat) (post : Int32 → zM → Prop) (px : String → zM → Prop)  (y2 : Int32) (y3 : Int32) (M : zM) : Prop := Z E jX11_palest D 0 (zQi post px) 45 0 [.ref 19, .ref 66, .int y2, .int y3] [] M
theorem e_X11_palest {E : zEv} {D : Nat} {post : Int32 → zM → Prop} {px : String → zM → Prop} {M : zM}   (h : w_X11_palest_15 E D post px (-1 : Int32) (0 : Int32) M) : zCi E jX11_palest D 0 [.ref 19] M post px := by
  refine z_meth (by decide) (Nat.le_of_ble_eq_true rfl) ?_
  show Z E jX11_palest D 0 (zQi post px) 0 0 [.ref 19, zU, zU, zU] [] M
  refine z_aload_n dX11_palest_0 rfl ?_
  refine z_getR dX11_palest_1 zg_X11_29 zs_19 rfl ?_
  refine z_getR dX11_palest_4 zg_X11_139 zs_61 rfl ?_
  refine z_getR dX11_palest_7 zg_X11_155 zs_62 rfl ?_
  refine z_astore_n dX11_palest_10 (by decide) (ls' := [.ref 19, .ref 66, zU, zU]) rfl ?_
  refine z_iconst (v := (-1 : Int32)) dX11_palest_11 rfl ?_
  refine z_istore_n dX11_palest_12 (by decide) (ls' := [.ref 19, .ref 66, .int (-1 : Int32), zU]) rfl ?_
  refine z_iconst (v := (0 : Int32)) dX11_palest_13 rfl ?_
  refine z_istore_n dX11_palest_14 (by decide) (ls' := [.ref 19, .ref 66, .int (-1 : Int32), .int (0 : Int32)]) rfl ?_
  exact h
theorem t_X11_palest_15 {E : zEv} {D : Nat} {post : Int32 → zM → Prop} {px : String → zM → Prop} {M : zM}   {y2 : Int32} {y3 : Int32} (h : (((M.1 62 6) ≤ y3 → post y2 M) ∧ (¬ (M.1 62 6) ≤ y3 → ((y2 = (-1 : Int32) → w_X11_palest_43 E D post px y3 M) ∧ (¬ y2 = (-1 : Int32) → vp_in y3 5 ∧ vp_in y2 5 ∧ (((M.1 66 (y2).toNatClampNeg) ≤ (M.1 66 (y3).toNatClampNeg) → w_X11_palest_45 E D post px y2 y3 M) ∧ (¬ (M.1 66 (y2).toNatClampNeg) ≤ (M.1 66 (y3).toNatClampNeg) → w_X11_palest_43 E D post px y3 M))))))) : w_X11_palest_15 E D post px y2 y3 M := by
  show Z E jX11_palest D 0 (zQi post px) 15 0 [.ref 19, .ref 66, .int y2, .int y3] [] M
  refine z_iload_n dX11_palest_15 rfl ?_
  refine z_aload_n dX11_palest_16 rfl ?_
  refine z_getR dX11_palest_17 zg_X11_29 zs_19 rfl ?_
  refine z_getR dX11_palest_20 zg_X11_139 zs_61 rfl ?_
  refine z_getI dX11_palest_23 zg_X11_263 zs_62 rfl ?_
  refine z_icmp_ge (tgt := 51) dX11_palest_26 (by decide) (fun g1 => ?_) (fun g1 => ?_)
  · have h2 := h.1 g1
    refine z_iload_n dX11_palest_51 rfl ?_
    exact z_iret dX11_palest_52 rfl rfl (by decide) h2
  · have h3 := h.2 g1
    refine z_iload_n dX11_palest_29 rfl ?_
    refine z_iconst (v := (-1 : Int32)) dX11_palest_30 rfl ?_
    refine z_icmp_eq (tgt := 43) dX11_palest_31 (by decide) (fun g4 => ?_) (fun g4 => ?_)
    · have h5 := h3.1 g4
      refine z_weak [true, true, false, true] (ls' := [.ref 19, .ref 66, zU, .int y3]) rfl rfl ?_
      exact h5
    · have h6 := h3.2 g4
      refine z_aload_n dX11_palest_34 rfl ?_
      refine z_iload_n dX11_palest_35 rfl ?_
      obtain ⟨g8, h7⟩ := h6
      refine z_iald dX11_palest_36 zs_66 g8 ?_
      refine z_aload_n dX11_palest_37 rfl ?_
      refine z_iload_n dX11_palest_38 rfl ?_
      obtain ⟨g10, h9⟩ := h7
      refine z_iald dX11_palest_39 zs_66 g10 ?_
      refine z_icmp_ge (tgt := 45) dX11_palest_40 (by decide) (fun g11 => ?_) (fun g11 => ?_)
      · have h12 := h9.1 g11
        exact h12
      · have h13 := h9.2 g11
        refine z_weak [true, true, false, true] (ls' := [.ref 19, .ref 66, zU, .int y3]) rfl rfl ?_
        exact h13
theorem t_X11_palest_43 {E : zEv} {D : Nat} {post : Int32 → zM → Prop} {px : String → zM → Prop} {M : zM}   {y3 : Int32} (h : w_X11_palest_45 E D post px y3 y3 M) : w_X11_palest_43 E D post px y3 M := by
  show Z E jX11_palest D 0 (zQi post px) 43 0 [.ref 19, .ref 66, zU, .int y3] [] M
  refine z_iload_n dX11_palest_43 rfl ?_
  refine z_istore_n dX11_palest_44 (by decide) (ls' := [.ref 19, .ref 66, .int y3, .int y3]) rfl ?_
  exact h
theorem t_X11_palest_45 {E : zEv} {D : Nat} {post : Int32 → zM → Prop} {px : String → zM → Prop} {M : zM}   {y2 : Int32} {y3 : Int32} (h : w_X11_palest_15 E D post px y2 (y3 + (1 : Int32)) M) : w_X11_palest_45 E D post px y2 y3 M := by
  show Z E jX11_palest D 0 (zQi post px) 45 0 [.ref 19, .ref 66, .int y2, .int y3] [] M
  refine z_iinc dX11_palest_45 rfl (by decide) (ls' := [.ref 19, .ref 66, .int y2, .int (y3 + (1 : Int32))]) rfl ?_
  refine z_goto (tgt := 15) dX11_palest_48 (by decide) ?_
  exact h
theorem e_X11_fits {E : zEv} {D : Nat} {post : Int32 → zM → Prop} {px : String → zM → Prop} {M : zM}   (h : zCl E jX11_fittingWorlds D 1 [.ref 19] M (fun r3 M1 => zCi E jJ13_bitCount_95d88 D 0 [.long r3] M1 (fun r6 M4 => post r6 M4) px) px) : zCi E jX11_fits (D + 1) 1 [.ref 19] M post px := by
  refine z_meth (by decide) (Nat.le_of_ble_eq_true rfl) ?_
  show Z E jX11_fits (D + 1) 1 (zQi post px) 0 0 [.ref 19] [] M
  refine z_aload_n dX11_fits_0 rfl ?_
  refine z_callVl (As := []) (st := []) dX11_fits_1 zi_X11_283 rfl rfl zs_19 rfl rfl (Nat.le_of_ble_eq_true rfl) (by decide) (fun _ _ hx => hx) h ?_
  intro r3 M1 h2
  refine z_callSi (As := [.long r3]) (st := []) dX11_fits_4 zi_X11_287 rfl rfl (Nat.le_of_ble_eq_true rfl) (by decide) (fun _ _ hx => hx) h2 ?_
  intro r6 M4 h5
  exact z_iret dX11_fits_7 rfl rfl (by decide) h5
def w_X11_sure_22 (E : zEv) (D : Nat) (post : Int32 → zM → Prop) (px : String → zM → Prop)  (y1 : Int64) (s0 : Int32) (M : zM) : Prop := Z E jX11_sure (D + 1) 1 (zQi post px) 22 1 [.ref 19, .long y1, zU, zU, zU] [.int s0] M
def w_X11_sure_26 (E : zEv) (D : Nat) (post : Int32 → zM → Prop) (px : String → zM → Prop)  (y1 : Int64) (y3 : Int32) (y4 : Int32) (M : zM) : Prop := Z E jX11_sure (D + 1) 1 (zQi post px) 26 1 [.ref 19, .long y1, zU, .int y3, .int y4] [] M
def w_X11_sure_54 (E : zEv) (D : Nat) (post : Int32 → zM → Prop) (px : String → zM → Prop)  (y1 : Int64) (y3 : Int32) (y4 : Int32) (M : zM) : Prop := Z E jX11_sure (D + 1) 1 (zQi post px) 54 1 [.ref 19, .long y1, zU, .int y3, .int y4] [] M
theorem e_X11_sure {E : zEv} {D : Nat} {post : Int32 → zM → Prop} {px : String → zM → Prop} {M : zM}   (h : zCl E jX11_fittingWorlds D 1 [.ref 19] M (fun r3 M1 => ((¬ (lg_cmp r3 (0 : Int64)) = 0 → zCi E jX3_allThings D 0 [.ref 61] M1 (fun r9 M7 => w_X11_sure_22 E D post px r3 r9 M7) px) ∧ ((lg_cmp r3 (0 : Int64)) = 0 → w_X11_sure_22 E D post px r3 (0 : Int32) M1))) px) : zCi E jX11_sure (D + 1) 1 [.ref 19] M post px := by
  refine z_meth (by decide) (Nat.le_of_ble_eq_true rfl) ?_
  show Z E jX11_sure (D + 1) 1 (zQi post px) 0 0 [.ref 19, zU, zU, zU, zU] [] M
  refine z_aload_n dX11_sure_0 rfl ?_
  refine z_callVl (As := []) (st := []) dX11_sure_1 zi_X11_283 rfl rfl zs_19 rfl rfl (Nat.le_of_ble_eq_true rfl) (by decide) (fun _ _ hx => hx) h ?_
  intro r3 M1 h2
  refine z_lstore_n dX11_sure_4 (by decide) (ls' := [.ref 19, .long r3, zU, zU, zU]) rfl ?_
  refine z_lload_n dX11_sure_5 rfl ?_
  refine z_lconst (v := (0 : Int64)) dX11_sure_6 rfl ?_
  refine z_lcmp dX11_sure_7 ?_
  refine z_if_ne (tgt := 15) dX11_sure_8 (by decide) (fun g4 => ?_) (fun g4 => ?_)
  · have h5 := h2.1 g4
    refine z_aload_n dX11_sure_15 rfl ?_
    refine z_getR dX11_sure_16 zg_X11_29 zs_19 rfl ?_
    refine z_callVi (As := []) (st := []) dX11_sure_19 zi_X11_251 rfl rfl zs_61 rfl rfl (Nat.le_of_ble_eq_true rfl) (by decide) (fun _ _ hx => hx) h5 ?_
    intro r9 M7 h8
    exact h8
  · have h6 := h2.2 g4
    refine z_iconst (v := (0 : Int32)) dX11_sure_11 rfl ?_
    refine z_goto (tgt := 22) dX11_sure_12 (by decide) ?_
    exact h6
theorem t_X11_sure_22 {E : zEv} {D : Nat} {post : Int32 → zM → Prop} {px : String → zM → Prop} {M : zM}   {y1 : Int64} {s0 : Int32} (h : w_X11_sure_26 E D post px y1 s0 (0 : Int32) M) : w_X11_sure_22 E D post px y1 s0 M := by
  show Z E jX11_sure (D + 1) 1 (zQi post px) 22 1 [.ref 19, .long y1, zU, zU, zU] [.int s0] M
  refine z_istore_n dX11_sure_22 (by decide) (ls' := [.ref 19, .long y1, zU, .int s0, zU]) rfl ?_
  refine z_iconst (v := (0 : Int32)) dX11_sure_23 rfl ?_
  refine z_istore dX11_sure_24 (by decide) (ls' := [.ref 19, .long y1, zU, .int s0, .int (0 : Int32)]) rfl ?_
  exact h
theorem t_X11_sure_26 {E : zEv} {D : Nat} {post : Int32 → zM → Prop} {px : String → zM → Prop} {M : zM}   {y1 : Int64} {y3 : Int32} {y4 : Int32} (h : zCi E jX3_worldCount D 0 [.ref 61] M (fun r3 M1 => ((r3 ≤ y4 → post y3 M1) ∧ (¬ r3 ≤ y4 → (((lg_cmp ((zlushr y1 y4) &&& (1 : Int64)) (0 : Int64)) = 0 → w_X11_sure_54 E D post px y1 y3 y4 M1) ∧ (¬ (lg_cmp ((zlushr y1 y4) &&& (1 : Int64)) (0 : Int64)) = 0 → w_X11_sure_54 E D post px y1 (y3 &&& y4) y4 M1))))) px) : w_X11_sure_26 E D post px y1 y3 y4 M := by
  show Z E jX11_sure (D + 1) 1 (zQi post px) 26 1 [.ref 19, .long y1, zU, .int y3, .int y4] [] M
  refine z_iload dX11_sure_26 rfl ?_
  refine z_aload_n dX11_sure_28 rfl ?_
  refine z_getR dX11_sure_29 zg_X11_29 zs_19 rfl ?_
  refine z_callVi (As := []) (st := [.int y4]) dX11_sure_32 zi_X11_293 rfl rfl zs_61 rfl rfl (Nat.le_of_ble_eq_true rfl) (by decide) (fun _ _ hx => hx) h ?_
  intro r3 M1 h2
  refine z_icmp_ge (tgt := 60) dX11_sure_35 (by decide) (fun g4 => ?_) (fun g4 => ?_)
  · have h5 := h2.1 g4
    refine z_iload_n dX11_sure_60 rfl ?_
    exact z_iret dX11_sure_61 rfl rfl (by decide) h5
  · have h6 := h2.2 g4
    refine z_lload_n dX11_sure_38 rfl ?_
    refine z_iload dX11_sure_39 rfl ?_
    refine z_lushr (v := (zlushr y1 y4)) dX11_sure_41 rfl ?_
    refine z_lconst (v := (1 : Int64)) dX11_sure_42 rfl ?_
    refine z_land dX11_sure_43 ?_
    refine z_lconst (v := (0 : Int64)) dX11_sure_44 rfl ?_
    refine z_lcmp dX11_sure_45 ?_
    refine z_if_eq (tgt := 54) dX11_sure_46 (by decide) (fun g7 => ?_) (fun g7 => ?_)
    · have h8 := h6.1 g7
      exact h8
    · have h9 := h6.2 g7
      refine z_iload_n dX11_sure_49 rfl ?_
      refine z_iload dX11_sure_50 rfl ?_
      refine z_iand dX11_sure_52 ?_
      refine z_istore_n dX11_sure_53 (by decide) (ls' := [.ref 19, .long y1, zU, .int (y3 &&& y4), .int y4]) rfl ?_
      exact h9
theorem t_X11_sure_54 {E : zEv} {D : Nat} {post : Int32 → zM → Prop} {px : String → zM → Prop} {M : zM}   {y1 : Int64} {y3 : Int32} {y4 : Int32} (h : w_X11_sure_26 E D post px y1 y3 (y4 + (1 : Int32)) M) : w_X11_sure_54 E D post px y1 y3 y4 M := by
  show Z E jX11_sure (D + 1) 1 (zQi post px) 54 1 [.ref 19, .long y1, zU, .int y3, .int y4] [] M
  refine z_iinc dX11_sure_54 rfl (by decide) (ls' := [.ref 19, .long y1, zU, .int y3, .int (y4 + (1 : Int32))]) rfl ?_
  refine z_goto (tgt := 26) dX11_sure_57 (by decide) ?_
  exact h
def w_X11_never_16 (E : zEv) (D : Nat) (post : Int32 → zM → Prop) (px : String → zM → Prop)  (y1 : Int64) (y3 : Int32) (y4 : Int32) (M : zM) : Prop := Z E jX11_never (D + 1) 1 (zQi post px) 16 1 [.ref 19, .long y1, zU, .int y3, .int y4] [] M
def w_X11_never_46 (E : zEv) (D : Nat) (post : Int32 → zM → Prop) (px : String → zM → Prop)  (y1 : Int64) (y3 : Int32) (y4 : Int32) (M : zM) : Prop := Z E jX11_never (D + 1) 1 (zQi post px) 46 1 [.ref 19, .long y1, zU, .int y3, .int y4] [] M
theorem e_X11_never {E : zEv} {D : Nat} {post : Int32 → zM → Prop} {px : String → zM → Prop} {M : zM}   (h : zCl E jX11_fittingWorlds D 1 [.ref 19] M (fun r3 M1 => zCi E jX3_allThings D 0 [.ref 61] M1 (fun r6 M4 => w_X11_never_16 E D post px r3 r6 (0 : Int32) M4) px) px) : zCi E jX11_never (D + 1) 1 [.ref 19] M post px := by
  refine z_meth (by decide) (Nat.le_of_ble_eq_true rfl) ?_
  show Z E jX11_never (D + 1) 1 (zQi post px) 0 0 [.ref 19, zU, zU, zU, zU] [] M
  refine z_aload_n dX11_never_0 rfl ?_
  refine z_callVl (As := []) (st := []) dX11_never_1 zi_X11_283 rfl rfl zs_19 rfl rfl (Nat.le_of_ble_eq_true rfl) (by decide) (fun _ _ hx => hx) h ?_
  intro r3 M1 h2
  refine z_lstore_n dX11_never_4 (by decide) (ls' := [.ref 19, .long r3, zU, zU, zU]) rfl ?_
  refine z_aload_n dX11_never_5 rfl ?_
  refine z_getR dX11_never_6 zg_X11_29 zs_19 rfl ?_
  refine z_callVi (As := []) (st := []) dX11_never_9 zi_X11_251 rfl rfl zs_61 rfl rfl (Nat.le_of_ble_eq_true rfl) (by decide) (fun _ _ hx => hx) h2 ?_
  intro r6 M4 h5
  refine z_istore_n dX11_never_12 (by decide) (ls' := [.ref 19, .long r3, zU, .int r6, zU]) rfl ?_
  refine z_iconst (v := (0 : Int32)) dX11_never_13 rfl ?_
  refine z_istore dX11_never_14 (by decide) (ls' := [.ref 19, .long r3, zU, .int r6, .int (0 : Int32)]) rfl ?_
  exact h5
theorem t_X11_never_16 {E : zEv} {D : Nat} {post : Int32 → zM → Prop} {px : String → zM → Prop} {M : zM}   {y1 : Int64} {y3 : Int32} {y4 : Int32} (h : zCi E jX3_worldCount D 0 [.ref 61] M (fun r3 M1 => ((r3 ≤ y4 → post y3 M1) ∧ (¬ r3 ≤ y4 → (((lg_cmp ((zlushr y1 y4) &&& (1 : Int64)) (0 : Int64)) = 0 → w_X11_never_46 E D post px y1 y3 y4 M1) ∧ (¬ (lg_cmp ((zlushr y1 y4) &&& (1 : Int64)) (0 : Int64)) = 0 → w_X11_never_46 E D post px y1 (y3 &&& (y4 ^^^ (-1 : Int32))) y4 M1))))) px) : w_X11_never_16 E D post px y1 y3 y4 M := by
  show Z E jX11_never (D + 1) 1 (zQi post px) 16 1 [.ref 19, .long y1, zU, .int y3, .int y4] [] M
  refine z_iload dX11_never_16 rfl ?_
  refine z_aload_n dX11_never_18 rfl ?_
  refine z_getR dX11_never_19 zg_X11_29 zs_19 rfl ?_
  refine z_callVi (As := []) (st := [.int y4]) dX11_never_22 zi_X11_293 rfl rfl zs_61 rfl rfl (Nat.le_of_ble_eq_true rfl) (by decide) (fun _ _ hx => hx) h ?_
  intro r3 M1 h2
  refine z_icmp_ge (tgt := 52) dX11_never_25 (by decide) (fun g4 => ?_) (fun g4 => ?_)
  · have h5 := h2.1 g4
    refine z_iload_n dX11_never_52 rfl ?_
    exact z_iret dX11_never_53 rfl rfl (by decide) h5
  · have h6 := h2.2 g4
    refine z_lload_n dX11_never_28 rfl ?_
    refine z_iload dX11_never_29 rfl ?_
    refine z_lushr (v := (zlushr y1 y4)) dX11_never_31 rfl ?_
    refine z_lconst (v := (1 : Int64)) dX11_never_32 rfl ?_
    refine z_land dX11_never_33 ?_
    refine z_lconst (v := (0 : Int64)) dX11_never_34 rfl ?_
    refine z_lcmp dX11_never_35 ?_
    refine z_if_eq (tgt := 46) dX11_never_36 (by decide) (fun g7 => ?_) (fun g7 => ?_)
    · have h8 := h6.1 g7
      exact h8
    · have h9 := h6.2 g7
      refine z_iload_n dX11_never_39 rfl ?_
      refine z_iload dX11_never_40 rfl ?_
      refine z_iconst (v := (-1 : Int32)) dX11_never_42 rfl ?_
      refine z_ixor dX11_never_43 ?_
      refine z_iand dX11_never_44 ?_
      refine z_istore_n dX11_never_45 (by decide) (ls' := [.ref 19, .long y1, zU, .int (y3 &&& (y4 ^^^ (-1 : Int32))), .int y4]) rfl ?_
      exact h9
theorem t_X11_never_46 {E : zEv} {D : Nat} {post : Int32 → zM → Prop} {px : String → zM → Prop} {M : zM}   {y1 : Int64} {y3 : Int32} {y4 : Int32} (h : w_X11_never_16 E D post px y1 y3 (y4 + (1 : Int32)) M) : w_X11_never_46 E D post px y1 y3 y4 M := by
  show Z E jX11_never (D + 1) 1 (zQi post px) 46 1 [.ref 19, .long y1, zU, .int y3, .int y4] [] M
  refine z_iinc dX11_never_46 rfl (by decide) (ls' := [.ref 19, .long y1, zU, .int y3, .int (y4 + (1 : Int32))]) rfl ?_
  refine z_goto (tgt := 16) dX11_never_49 (by decide) ?_
  exact h
def w_X11_next_23 (E : zEv) (D : Nat) (post : Int32 → zM → Prop) (px : String → zM → Prop)  (y1 : Int64) (y3 : Int32) (y4 : Int32) (y5 : Int32) (M : zM) : Prop := Z E jX11_next (D + 1) 1 (zQi post px) 23 1 [.ref 19, .long y1, zU, .int y3, .int y4, .int y5, zU] [] M
def w_X11_next_67 (E : zEv) (D : Nat) (post : Int32 → zM → Prop) (px : String → zM → Prop)  (y1 : Int64) (y5 : Int32) (y6 : Int32) (M : zM) : Prop := Z E jX11_next (D + 1) 1 (zQi post px) 67 1 [.ref 19, .long y1, zU, zU, zU, .int y5, .int y6] [] M
def w_X11_next_74 (E : zEv) (D : Nat) (post : Int32 → zM → Prop) (px : String → zM → Prop)  (y1 : Int64) (y3 : Int32) (y4 : Int32) (y5 : Int32) (M : zM) : Prop := Z E jX11_next (D + 1) 1 (zQi post px) 74 1 [.ref 19, .long y1, zU, .int y3, .int y4, .int y5, zU] [] M
theorem e_X11_next {E : zEv} {D : Nat} {post : Int32 → zM → Prop} {px : String → zM → Prop} {M : zM}   (h : zCl E jX11_fittingWorlds D 1 [.ref 19] M (fun r3 M1 => zCi E jJ13_bitCount_95d88 D 0 [.long r3] M1 (fun r6 M4 => (((2 : Int32) ≤ r6 → w_X11_next_23 E D post px r3 (-1 : Int32) (0 : Int32) (0 : Int32) M4) ∧ (¬ (2 : Int32) ≤ r6 → post (-1 : Int32) M4))) px) px) : zCi E jX11_next (D + 1) 1 [.ref 19] M post px := by
  refine z_meth (by decide) (Nat.le_of_ble_eq_true rfl) ?_
  show Z E jX11_next (D + 1) 1 (zQi post px) 0 0 [.ref 19, zU, zU, zU, zU, zU, zU] [] M
  refine z_aload_n dX11_next_0 rfl ?_
  refine z_callVl (As := []) (st := []) dX11_next_1 zi_X11_283 rfl rfl zs_19 rfl rfl (Nat.le_of_ble_eq_true rfl) (by decide) (fun _ _ hx => hx) h ?_
  intro r3 M1 h2
  refine z_lstore_n dX11_next_4 (by decide) (ls' := [.ref 19, .long r3, zU, zU, zU, zU, zU]) rfl ?_
  refine z_lload_n dX11_next_5 rfl ?_
  refine z_callSi (As := [.long r3]) (st := []) dX11_next_6 zi_X11_287 rfl rfl (Nat.le_of_ble_eq_true rfl) (by decide) (fun _ _ hx => hx) h2 ?_
  intro r6 M4 h5
  refine z_iconst (v := (2 : Int32)) dX11_next_9 rfl ?_
  refine z_icmp_ge (tgt := 15) dX11_next_10 (by decide) (fun g7 => ?_) (fun g7 => ?_)
  · have h8 := h5.1 g7
    refine z_iconst (v := (-1 : Int32)) dX11_next_15 rfl ?_
    refine z_istore_n dX11_next_16 (by decide) (ls' := [.ref 19, .long r3, zU, .int (-1 : Int32), zU, zU, zU]) rfl ?_
    refine z_iconst (v := (0 : Int32)) dX11_next_17 rfl ?_
    refine z_istore dX11_next_18 (by decide) (ls' := [.ref 19, .long r3, zU, .int (-1 : Int32), .int (0 : Int32), zU, zU]) rfl ?_
    refine z_iconst (v := (0 : Int32)) dX11_next_20 rfl ?_
    refine z_istore dX11_next_21 (by decide) (ls' := [.ref 19, .long r3, zU, .int (-1 : Int32), .int (0 : Int32), .int (0 : Int32), zU]) rfl ?_
    exact h8
  · have h9 := h5.2 g7
    refine z_iconst (v := (-1 : Int32)) dX11_next_13 rfl ?_
    exact z_iret dX11_next_14 rfl rfl (by decide) h9
theorem t_X11_next_23 {E : zEv} {D : Nat} {post : Int32 → zM → Prop} {px : String → zM → Prop} {M : zM}   {y1 : Int64} {y3 : Int32} {y4 : Int32} {y5 : Int32} (h : (((M.1 61 7) ≤ y5 → post y3 M) ∧ (¬ (M.1 61 7) ≤ y5 → zCi E jX10_greatestPart D 0 [.ref 48, .ref 43, .ref 61, .int y5, .long y1] M (fun r6 M4 => ((y3 = (-1 : Int32) → w_X11_next_67 E D post px y1 y5 r6 M4) ∧ (¬ y3 = (-1 : Int32) → ((y4 ≤ r6 → w_X11_next_74 E D post px y1 y3 y4 y5 M4) ∧ (¬ y4 ≤ r6 → w_X11_next_67 E D post px y1 y5 r6 M4))))) px))) : w_X11_next_23 E D post px y1 y3 y4 y5 M := by
  show Z E jX11_next (D + 1) 1 (zQi post px) 23 1 [.ref 19, .long y1, zU, .int y3, .int y4, .int y5, zU] [] M
  refine z_iload dX11_next_23 rfl ?_
  refine z_aload_n dX11_next_25 rfl ?_
  refine z_getR dX11_next_26 zg_X11_29 zs_19 rfl ?_
  refine z_getI dX11_next_29 zg_X11_296 zs_61 rfl ?_
  refine z_icmp_ge (tgt := 80) dX11_next_32 (by decide) (fun g1 => ?_) (fun g1 => ?_)
  · have h2 := h.1 g1
    refine z_iload_n dX11_next_80 rfl ?_
    exact z_iret dX11_next_81 rfl rfl (by decide) h2
  · have h3 := h.2 g1
    refine z_aload_n dX11_next_35 rfl ?_
    refine z_getR dX11_next_36 zg_X11_56 zs_19 rfl ?_
    refine z_aload_n dX11_next_39 rfl ?_
    refine z_getR dX11_next_40 zg_X11_49 zs_19 rfl ?_
    refine z_aload_n dX11_next_43 rfl ?_
    refine z_getR dX11_next_44 zg_X11_29 zs_19 rfl ?_
    refine z_iload dX11_next_47 rfl ?_
    refine z_lload_n dX11_next_49 rfl ?_
    refine z_callVi (As := [.ref 43, .ref 61, .int y5, .long y1]) (st := []) dX11_next_50 zi_X11_299 rfl rfl zs_48 rfl rfl (Nat.le_of_ble_eq_true rfl) (by decide) (fun _ _ hx => hx) h3 ?_
    intro r6 M4 h5
    refine z_istore dX11_next_53 (by decide) (ls' := [.ref 19, .long y1, zU, .int y3, .int y4, .int y5, .int r6]) rfl ?_
    refine z_iload_n dX11_next_55 rfl ?_
    refine z_iconst (v := (-1 : Int32)) dX11_next_56 rfl ?_
    refine z_icmp_eq (tgt := 67) dX11_next_57 (by decide) (fun g7 => ?_) (fun g7 => ?_)
    · have h8 := h5.1 g7
      refine z_weak [true, true, false, false, false, true, true] (ls' := [.ref 19, .long y1, zU, zU, zU, .int y5, .int r6]) rfl rfl ?_
      exact h8
    · have h9 := h5.2 g7
      refine z_iload dX11_next_60 rfl ?_
      refine z_iload dX11_next_62 rfl ?_
      refine z_icmp_ge (tgt := 74) dX11_next_64 (by decide) (fun g10 => ?_) (fun g10 => ?_)
      · have h11 := h9.1 g10
        refine z_weak [true, true, false, true, true, true, false] (ls' := [.ref 19, .long y1, zU, .int y3, .int y4, .int y5, zU]) rfl rfl ?_
        exact h11
      · have h12 := h9.2 g10
        refine z_weak [true, true, false, false, false, true, true] (ls' := [.ref 19, .long y1, zU, zU, zU, .int y5, .int r6]) rfl rfl ?_
        exact h12
theorem t_X11_next_67 {E : zEv} {D : Nat} {post : Int32 → zM → Prop} {px : String → zM → Prop} {M : zM}   {y1 : Int64} {y5 : Int32} {y6 : Int32} (h : w_X11_next_74 E D post px y1 y5 y6 y5 M) : w_X11_next_67 E D post px y1 y5 y6 M := by
  show Z E jX11_next (D + 1) 1 (zQi post px) 67 1 [.ref 19, .long y1, zU, zU, zU, .int y5, .int y6] [] M
  refine z_iload dX11_next_67 rfl ?_
  refine z_istore_n dX11_next_69 (by decide) (ls' := [.ref 19, .long y1, zU, .int y5, zU, .int y5, .int y6]) rfl ?_
  refine z_iload dX11_next_70 rfl ?_
  refine z_istore dX11_next_72 (by decide) (ls' := [.ref 19, .long y1, zU, .int y5, .int y6, .int y5, .int y6]) rfl ?_
  refine z_weak [true, true, false, true, true, true, false] (ls' := [.ref 19, .long y1, zU, .int y5, .int y6, .int y5, zU]) rfl rfl ?_
  exact h
theorem t_X11_next_74 {E : zEv} {D : Nat} {post : Int32 → zM → Prop} {px : String → zM → Prop} {M : zM}   {y1 : Int64} {y3 : Int32} {y4 : Int32} {y5 : Int32} (h : w_X11_next_23 E D post px y1 y3 y4 (y5 + (1 : Int32)) M) : w_X11_next_74 E D post px y1 y3 y4 y5 M := by
  show Z E jX11_next (D + 1) 1 (zQi post px) 74 1 [.ref 19, .long y1, zU, .int y3, .int y4, .int y5, zU] [] M
  refine z_iinc dX11_next_74 rfl (by decide) (ls' := [.ref 19, .long y1, zU, .int y3, .int y4, .int (y5 + (1 : Int32)), zU]) rfl ?_
  refine z_goto (tgt := 23) dX11_next_77 (by decide) ?_
  exact h
theorem e_X11_dark {E : zEv} {D : Nat} {post : Int32 → zM → Prop} {px : String → zM → Prop} {M : zM}   (h : zCi E jX10_hidden D 0 [.ref 48, .ref 43, .ref 61] M (fun r3 M1 => post r3 M1) px) : zCi E jX11_dark (D + 1) 0 [.ref 19] M post px := by
  refine z_meth (by decide) (Nat.le_of_ble_eq_true rfl) ?_
  show Z E jX11_dark (D + 1) 0 (zQi post px) 0 0 [.ref 19] [] M
  refine z_aload_n dX11_dark_0 rfl ?_
  refine z_getR dX11_dark_1 zg_X11_56 zs_19 rfl ?_
  refine z_aload_n dX11_dark_4 rfl ?_
  refine z_getR dX11_dark_5 zg_X11_49 zs_19 rfl ?_
  refine z_aload_n dX11_dark_8 rfl ?_
  refine z_getR dX11_dark_9 zg_X11_29 zs_19 rfl ?_
  refine z_callVi (As := [.ref 43, .ref 61]) (st := []) dX11_dark_12 zi_X11_303 rfl rfl zs_48 rfl rfl (Nat.le_of_ble_eq_true rfl) (by decide) (fun _ _ hx => hx) h ?_
  intro r3 M1 h2
  exact z_iret dX11_dark_15 rfl rfl (by decide) h2
theorem e_X11_tells {E : zEv} {D : Nat} {post : Int32 → zM → Prop} {px : String → zM → Prop} {M : zM} {x1 : Int32}  (h : zCv E jX11_needQuestion D 1 [.ref 19, .int x1] M (fun M1 => zCi E jX10_partsOf D 0 [.ref 48, .ref 43, .ref 61, .int x1] M1 (fun r5 M3 => post r5 M3) px) px) : zCi E jX11_tells (D + 1) 1 [.ref 19, .int x1] M post px := by
  refine z_meth (by decide) (Nat.le_of_ble_eq_true rfl) ?_
  show Z E jX11_tells (D + 1) 1 (zQi post px) 0 0 [.ref 19, .int x1] [] M
  refine z_aload_n dX11_tells_0 rfl ?_
  refine z_iload_n dX11_tells_1 rfl ?_
  refine z_callVv (As := [.int x1]) (st := []) dX11_tells_2 zi_X11_201 rfl rfl zs_19 rfl rfl (Nat.le_of_ble_eq_true rfl) (by decide) (fun _ _ hx => hx) h ?_
  intro M1 h2
  refine z_aload_n dX11_tells_5 rfl ?_
  refine z_getR dX11_tells_6 zg_X11_56 zs_19 rfl ?_
  refine z_aload_n dX11_tells_9 rfl ?_
  refine z_getR dX11_tells_10 zg_X11_49 zs_19 rfl ?_
  refine z_aload_n dX11_tells_13 rfl ?_
  refine z_getR dX11_tells_14 zg_X11_29 zs_19 rfl ?_
  refine z_iload_n dX11_tells_17 rfl ?_
  refine z_callVi (As := [.ref 43, .ref 61, .int x1]) (st := []) dX11_tells_18 zi_X11_307 rfl rfl zs_48 rfl rfl (Nat.le_of_ble_eq_true rfl) (by decide) (fun _ _ hx => hx) h2 ?_
  intro r5 M3 h4
  exact z_iret dX11_tells_21 rfl rfl (by decide) h4
theorem e_X11_shared {E : zEv} {D : Nat} {post : Int32 → zM → Prop} {px : String → zM → Prop} {M : zM} {x1 : Int32}  (h : zCv E jX11_needQuestion D 1 [.ref 19, .int x1] M (fun M1 => zCi E jX11_touchedBy D 0 [.ref 19, .int x1] M1 (fun r5 M3 => zCi E jX0_sharedIn D 0 [.ref 68, .int (M1.1 62 6), .int r5] M3 (fun r8 M6 => post r8 M6) px) px) px) : zCi E jX11_shared (D + 1) 1 [.ref 19, .int x1] M post px := by
  refine z_meth (by decide) (Nat.le_of_ble_eq_true rfl) ?_
  show Z E jX11_shared (D + 1) 1 (zQi post px) 0 0 [.ref 19, .int x1] [] M
  refine z_aload_n dX11_shared_0 rfl ?_
  refine z_iload_n dX11_shared_1 rfl ?_
  refine z_callVv (As := [.int x1]) (st := []) dX11_shared_2 zi_X11_201 rfl rfl zs_19 rfl rfl (Nat.le_of_ble_eq_true rfl) (by decide) (fun _ _ hx => hx) h ?_
  intro M1 h2
  refine z_aload_n dX11_shared_5 rfl ?_
  refine z_getR dX11_shared_6 zg_X11_29 zs_19 rfl ?_
  refine z_getR dX11_shared_9 zg_X11_139 zs_61 rfl ?_
  refine z_getR dX11_shared_12 zg_X11_216 zs_62 rfl ?_
  refine z_aload_n dX11_shared_15 rfl ?_
  refine z_getR dX11_shared_16 zg_X11_29 zs_19 rfl ?_
  refine z_getR dX11_shared_19 zg_X11_139 zs_61 rfl ?_
  refine z_getI dX11_shared_22 zg_X11_263 zs_62 rfl ?_
  refine z_aload_n dX11_shared_25 rfl ?_
  refine z_iload_n dX11_shared_26 rfl ?_
  refine z_callVi (As := [.int x1]) (st := [.int (M1.1 62 6), .ref 68]) dX11_shared_27 zi_X11_310 rfl rfl zs_19 rfl rfl (Nat.le_of_ble_eq_true rfl) (by decide) (fun _ _ hx => hx) h2 ?_
  intro r5 M3 h4
  refine z_callSi (As := [.ref 68, .int (M1.1 62 6), .int r5]) (st := []) dX11_shared_30 zi_X11_313 rfl rfl (Nat.le_of_ble_eq_true rfl) (by decide) (fun _ _ hx => hx) h4 ?_
  intro r8 M6 h7
  exact z_iret dX11_shared_33 rfl rfl (by decide) h7
theorem e_X11_apart {E : zEv} {D : Nat} {post : Int32 → zM → Prop} {px : String → zM → Prop} {M : zM} {x1 : Int32}  (h : zCv E jX11_needQuestion D 1 [.ref 19, .int x1] M (fun M1 => zCi E jX11_touchedBy D 0 [.ref 19, .int x1] M1 (fun r5 M3 => zCv E jX0_search D 0 [.ref 53, .ref 62, .int r5] M3 (fun M6 => post (M6.1 53 3) M6) px) px) px) : zCi E jX11_apart (D + 1) 1 [.ref 19, .int x1] M post px := by
  refine z_meth (by decide) (Nat.le_of_ble_eq_true rfl) ?_
  show Z E jX11_apart (D + 1) 1 (zQi post px) 0 0 [.ref 19, .int x1] [] M
  refine z_aload_n dX11_apart_0 rfl ?_
  refine z_iload_n dX11_apart_1 rfl ?_
  refine z_callVv (As := [.int x1]) (st := []) dX11_apart_2 zi_X11_201 rfl rfl zs_19 rfl rfl (Nat.le_of_ble_eq_true rfl) (by decide) (fun _ _ hx => hx) h ?_
  intro M1 h2
  refine z_aload_n dX11_apart_5 rfl ?_
  refine z_getR dX11_apart_6 zg_X11_63 zs_19 rfl ?_
  refine z_aload_n dX11_apart_9 rfl ?_
  refine z_getR dX11_apart_10 zg_X11_29 zs_19 rfl ?_
  refine z_getR dX11_apart_13 zg_X11_139 zs_61 rfl ?_
  refine z_aload_n dX11_apart_16 rfl ?_
  refine z_iload_n dX11_apart_17 rfl ?_
  refine z_callVi (As := [.int x1]) (st := [.ref 62, .ref 53]) dX11_apart_18 zi_X11_310 rfl rfl zs_19 rfl rfl (Nat.le_of_ble_eq_true rfl) (by decide) (fun _ _ hx => hx) h2 ?_
  intro r5 M3 h4
  refine z_callVv (As := [.ref 62, .int r5]) (st := []) dX11_apart_21 zi_X11_317 rfl rfl zs_53 rfl rfl (Nat.le_of_ble_eq_true rfl) (by decide) (fun _ _ hx => hx) h4 ?_
  intro M6 h7
  refine z_aload_n dX11_apart_24 rfl ?_
  refine z_getR dX11_apart_25 zg_X11_63 zs_19 rfl ?_
  refine z_getI dX11_apart_28 zg_X11_321 zs_53 rfl ?_
  exact z_iret dX11_apart_31 rfl rfl (by decide) h7
theorem e_X11_row {E : zEv} {D : Nat} {post : Int32 → zM → Prop} {px : String → zM → Prop} {M : zM} {x1 : Int32} {x2 : Int32}  (h : zCv E jX11_needQuestion D 1 [.ref 19, .int x1] M (fun M1 => zCv E jX11_needPlace D 1 [.ref 19, .int x2] M1 (fun M3 => zCi E jX11_touchedBy D 0 [.ref 19, .int x1] M3 (fun r7 M5 => zCv E jX0_search D 0 [.ref 53, .ref 62, .int r7] M5 (fun M8 => vp_in x2 5 ∧ post (M8.1 54 (x2).toNatClampNeg) M8) px) px) px) px) : zCi E jX11_row (D + 1) 2 [.ref 19, .int x1, .int x2] M post px := by
  refine z_meth (by decide) (Nat.le_of_ble_eq_true rfl) ?_
  show Z E jX11_row (D + 1) 2 (zQi post px) 0 0 [.ref 19, .int x1, .int x2] [] M
  refine z_aload_n dX11_row_0 rfl ?_
  refine z_iload_n dX11_row_1 rfl ?_
  refine z_callVv (As := [.int x1]) (st := []) dX11_row_2 zi_X11_201 rfl rfl zs_19 rfl rfl (Nat.le_of_ble_eq_true rfl) (by decide) (fun _ _ hx => hx) h ?_
  intro M1 h2
  refine z_aload_n dX11_row_5 rfl ?_
  refine z_iload_n dX11_row_6 rfl ?_
  refine z_callVv (As := [.int x2]) (st := []) dX11_row_7 zi_X11_213 rfl rfl zs_19 rfl rfl (Nat.le_of_ble_eq_true rfl) (by decide) (fun _ _ hx => hx) h2 ?_
  intro M3 h4
  refine z_aload_n dX11_row_10 rfl ?_
  refine z_getR dX11_row_11 zg_X11_63 zs_19 rfl ?_
  refine z_aload_n dX11_row_14 rfl ?_
  refine z_getR dX11_row_15 zg_X11_29 zs_19 rfl ?_
  refine z_getR dX11_row_18 zg_X11_139 zs_61 rfl ?_
  refine z_aload_n dX11_row_21 rfl ?_
  refine z_iload_n dX11_row_22 rfl ?_
  refine z_callVi (As := [.int x1]) (st := [.ref 62, .ref 53]) dX11_row_23 zi_X11_310 rfl rfl zs_19 rfl rfl (Nat.le_of_ble_eq_true rfl) (by decide) (fun _ _ hx => hx) h4 ?_
  intro r7 M5 h6
  refine z_callVv (As := [.ref 62, .int r7]) (st := []) dX11_row_26 zi_X11_317 rfl rfl zs_53 rfl rfl (Nat.le_of_ble_eq_true rfl) (by decide) (fun _ _ hx => hx) h6 ?_
  intro M8 h9
  refine z_aload_n dX11_row_29 rfl ?_
  refine z_getR dX11_row_30 zg_X11_63 zs_19 rfl ?_
  refine z_getR dX11_row_33 zg_X11_324 zs_53 rfl ?_
  refine z_iload_n dX11_row_36 rfl ?_
  obtain ⟨g11, h10⟩ := h9
  refine z_iald dX11_row_37 zs_54 g11 ?_
  exact z_iret dX11_row_38 rfl rfl (by decide) h10
def w_X11_wrong_45 (E : zEv) (D : Nat) (post : Int32 → zM → Prop) (px : String → zM → Prop)  (y1 : Int32) (y2 : Int32) (y3 : Int32) (M : zM) : Prop := Z E jX11_wrong (D + 1) 1 (zQi post px) 45 1 [.ref 19, .int y1, .int y2, .int y3] [] M
def w_X11_wrong_80 (E : zEv) (D : Nat) (post : Int32 → zM → Prop) (px : String → zM → Prop)  (y1 : Int32) (y2 : Int32) (y3 : Int32) (M : zM) : Prop := Z E jX11_wrong (D + 1) 1 (zQi post px) 80 1 [.ref 19, .int y1, .int y2, .int y3] [] M
theorem e_X11_wrong {E : zEv} {D : Nat} {post : Int32 → zM → Prop} {px : String → zM → Prop} {M : zM}   (h : zCi E jX9_useUp D 0 [.ref 20] M (fun r3 M1 => zCi E jX11_needRows D 1 [.ref 19, .int r3, .int (M1.1 61 8), .int (M1.1 62 6), .int (99 : Int32)] M1 (fun r6 M4 => w_X11_wrong_45 E D post px r6 (((1 : Int32) <<< ((M4.1 61 8) &&& 31)) - (1 : Int32)) (0 : Int32) M4) px) px) : zCi E jX11_wrong (D + 1) 1 [.ref 19] M post px := by
  refine z_meth (by decide) (Nat.le_of_ble_eq_true rfl) ?_
  show Z E jX11_wrong (D + 1) 1 (zQi post px) 0 0 [.ref 19, zU, zU, zU] [] M
  refine z_aload_n dX11_wrong_0 rfl ?_
  refine z_aload_n dX11_wrong_1 rfl ?_
  refine z_getR dX11_wrong_2 zg_X11_10 zs_19 rfl ?_
  refine z_callVi (As := []) (st := [.ref 19]) dX11_wrong_5 zi_X11_102 rfl rfl zs_20 rfl rfl (Nat.le_of_ble_eq_true rfl) (by decide) (fun _ _ hx => hx) h ?_
  intro r3 M1 h2
  refine z_aload_n dX11_wrong_8 rfl ?_
  refine z_getR dX11_wrong_9 zg_X11_29 zs_19 rfl ?_
  refine z_getI dX11_wrong_12 zg_X11_327 zs_61 rfl ?_
  refine z_aload_n dX11_wrong_15 rfl ?_
  refine z_getR dX11_wrong_16 zg_X11_29 zs_19 rfl ?_
  refine z_getR dX11_wrong_19 zg_X11_139 zs_61 rfl ?_
  refine z_getI dX11_wrong_22 zg_X11_263 zs_62 rfl ?_
  refine z_bipush (v := (99 : Int32)) dX11_wrong_25 rfl ?_
  refine z_callVi (As := [.int r3, .int (M1.1 61 8), .int (M1.1 62 6), .int (99 : Int32)]) (st := []) dX11_wrong_27 zi_X11_330 rfl rfl zs_19 rfl rfl (Nat.le_of_ble_eq_true rfl) (by decide) (fun _ _ hx => hx) h2 ?_
  intro r6 M4 h5
  refine z_istore_n dX11_wrong_30 (by decide) (ls' := [.ref 19, .int r6, zU, zU]) rfl ?_
  refine z_iconst (v := (1 : Int32)) dX11_wrong_31 rfl ?_
  refine z_aload_n dX11_wrong_32 rfl ?_
  refine z_getR dX11_wrong_33 zg_X11_29 zs_19 rfl ?_
  refine z_getI dX11_wrong_36 zg_X11_327 zs_61 rfl ?_
  refine z_ishl dX11_wrong_39 ?_
  refine z_iconst (v := (1 : Int32)) dX11_wrong_40 rfl ?_
  refine z_isub dX11_wrong_41 ?_
  refine z_istore_n dX11_wrong_42 (by decide) (ls' := [.ref 19, .int r6, .int (((1 : Int32) <<< ((M4.1 61 8) &&& 31)) - (1 : Int32)), zU]) rfl ?_
  refine z_iconst (v := (0 : Int32)) dX11_wrong_43 rfl ?_
  refine z_istore_n dX11_wrong_44 (by decide) (ls' := [.ref 19, .int r6, .int (((1 : Int32) <<< ((M4.1 61 8) &&& 31)) - (1 : Int32)), .int (0 : Int32)]) rfl ?_
  exact h5
theorem t_X11_wrong_45 {E : zEv} {D : Nat} {post : Int32 → zM → Prop} {px : String → zM → Prop} {M : zM}   {y1 : Int32} {y2 : Int32} {y3 : Int32} (h : ((((1 : Int32) <<< ((M.1 61 8) &&& 31)) ≤ y3 → post y2 M) ∧ (¬ ((1 : Int32) <<< ((M.1 61 8) &&& 31)) ≤ y3 → zCi E jJ6_bitCount_0f7a4 D 0 [.int y3] M (fun r6 M4 => zCi E jJ6_bitCount_0f7a4 D 0 [.int y2] M4 (fun r9 M7 => ((r9 ≤ r6 → w_X11_wrong_80 E D post px y1 y2 y3 M7) ∧ (¬ r9 ≤ r6 → zCi E jX11_allMayBe D 0 [.ref 19, .int y1, .int y3] M7 (fun r15 M13 => ((r15 = 0 → w_X11_wrong_80 E D post px y1 y2 y3 M13) ∧ (¬ r15 = 0 → w_X11_wrong_80 E D post px y1 y3 y3 M13))) px))) px) px))) : w_X11_wrong_45 E D post px y1 y2 y3 M := by
  show Z E jX11_wrong (D + 1) 1 (zQi post px) 45 1 [.ref 19, .int y1, .int y2, .int y3] [] M
  refine z_iload_n dX11_wrong_45 rfl ?_
  refine z_iconst (v := (1 : Int32)) dX11_wrong_46 rfl ?_
  refine z_aload_n dX11_wrong_47 rfl ?_
  refine z_getR dX11_wrong_48 zg_X11_29 zs_19 rfl ?_
  refine z_getI dX11_wrong_51 zg_X11_327 zs_61 rfl ?_
  refine z_ishl dX11_wrong_54 ?_
  refine z_icmp_ge (tgt := 86) dX11_wrong_55 (by decide) (fun g1 => ?_) (fun g1 => ?_)
  · have h2 := h.1 g1
    refine z_iload_n dX11_wrong_86 rfl ?_
    exact z_iret dX11_wrong_87 rfl rfl (by decide) h2
  · have h3 := h.2 g1
    refine z_iload_n dX11_wrong_58 rfl ?_
    refine z_callSi (As := [.int y3]) (st := []) dX11_wrong_59 zi_X11_334 rfl rfl (Nat.le_of_ble_eq_true rfl) (by decide) (fun _ _ hx => hx) h3 ?_
    intro r6 M4 h5
    refine z_iload_n dX11_wrong_62 rfl ?_
    refine z_callSi (As := [.int y2]) (st := [.int r6]) dX11_wrong_63 zi_X11_334 rfl rfl (Nat.le_of_ble_eq_true rfl) (by decide) (fun _ _ hx => hx) h5 ?_
    intro r9 M7 h8
    refine z_icmp_ge (tgt := 80) dX11_wrong_66 (by decide) (fun g10 => ?_) (fun g10 => ?_)
    · have h11 := h8.1 g10
      exact h11
    · have h12 := h8.2 g10
      refine z_aload_n dX11_wrong_69 rfl ?_
      refine z_iload_n dX11_wrong_70 rfl ?_
      refine z_iload_n dX11_wrong_71 rfl ?_
      refine z_callVi (As := [.int y1, .int y3]) (st := []) dX11_wrong_72 zi_X11_338 rfl rfl zs_19 rfl rfl (Nat.le_of_ble_eq_true rfl) (by decide) (fun _ _ hx => hx) h12 ?_
      intro r15 M13 h14
      refine z_if_eq (tgt := 80) dX11_wrong_75 (by decide) (fun g16 => ?_) (fun g16 => ?_)
      · have h17 := h14.1 g16
        exact h17
      · have h18 := h14.2 g16
        refine z_iload_n dX11_wrong_78 rfl ?_
        refine z_istore_n dX11_wrong_79 (by decide) (ls' := [.ref 19, .int y1, .int y3, .int y3]) rfl ?_
        exact h18
theorem t_X11_wrong_80 {E : zEv} {D : Nat} {post : Int32 → zM → Prop} {px : String → zM → Prop} {M : zM}   {y1 : Int32} {y2 : Int32} {y3 : Int32} (h : w_X11_wrong_45 E D post px y1 y2 (y3 + (1 : Int32)) M) : w_X11_wrong_80 E D post px y1 y2 y3 M := by
  show Z E jX11_wrong (D + 1) 1 (zQi post px) 80 1 [.ref 19, .int y1, .int y2, .int y3] [] M
  refine z_iinc dX11_wrong_80 rfl (by decide) (ls' := [.ref 19, .int y1, .int y2, .int (y3 + (1 : Int32))]) rfl ?_
  refine z_goto (tgt := 45) dX11_wrong_83 (by decide) ?_
  exact h
theorem e_X11_shades {E : zEv} {D : Nat} {post : Int32 → zM → Prop} {px : String → zM → Prop} {M : zM} {x1 : Int32}  (h : zCi E jX9_useUp D 0 [.ref 20] M (fun r3 M1 => zCv E jX11_needWitness D 1 [.ref 19, .int x1] M1 (fun M4 => zCi E jX11_needRows D 1 [.ref 19, .int r3, .int (M4.1 61 8), .int (M4.1 62 6), .int (99 : Int32)] M4 (fun r8 M6 => zCi E jX11_shadesLeft D 0 [.ref 19, .int r8, .int x1, .int (0 : Int32)] M6 (fun r11 M9 => post r11 M9) px) px) px) px) : zCi E jX11_shades (D + 1) 2 [.ref 19, .int x1] M post px := by
  refine z_meth (by decide) (Nat.le_of_ble_eq_true rfl) ?_
  show Z E jX11_shades (D + 1) 2 (zQi post px) 0 0 [.ref 19, .int x1, zU] [] M
  refine z_aload_n dX11_shades_0 rfl ?_
  refine z_getR dX11_shades_1 zg_X11_10 zs_19 rfl ?_
  refine z_callVi (As := []) (st := []) dX11_shades_4 zi_X11_102 rfl rfl zs_20 rfl rfl (Nat.le_of_ble_eq_true rfl) (by decide) (fun _ _ hx => hx) h ?_
  intro r3 M1 h2
  refine z_istore_n dX11_shades_7 (by decide) (ls' := [.ref 19, .int x1, .int r3]) rfl ?_
  refine z_aload_n dX11_shades_8 rfl ?_
  refine z_iload_n dX11_shades_9 rfl ?_
  refine z_callVv (As := [.int x1]) (st := []) dX11_shades_10 zi_X11_136 rfl rfl zs_19 rfl rfl (Nat.le_of_ble_eq_true rfl) (by decide) (fun _ _ hx => hx) h2 ?_
  intro M4 h5
  refine z_aload_n dX11_shades_13 rfl ?_
  refine z_aload_n dX11_shades_14 rfl ?_
  refine z_iload_n dX11_shades_15 rfl ?_
  refine z_aload_n dX11_shades_16 rfl ?_
  refine z_getR dX11_shades_17 zg_X11_29 zs_19 rfl ?_
  refine z_getI dX11_shades_20 zg_X11_327 zs_61 rfl ?_
  refine z_aload_n dX11_shades_23 rfl ?_
  refine z_getR dX11_shades_24 zg_X11_29 zs_19 rfl ?_
  refine z_getR dX11_shades_27 zg_X11_139 zs_61 rfl ?_
  refine z_getI dX11_shades_30 zg_X11_263 zs_62 rfl ?_
  refine z_bipush (v := (99 : Int32)) dX11_shades_33 rfl ?_
  refine z_callVi (As := [.int r3, .int (M4.1 61 8), .int (M4.1 62 6), .int (99 : Int32)]) (st := [.ref 19]) dX11_shades_35 zi_X11_330 rfl rfl zs_19 rfl rfl (Nat.le_of_ble_eq_true rfl) (by decide) (fun _ _ hx => hx) h5 ?_
  intro r8 M6 h7
  refine z_iload_n dX11_shades_38 rfl ?_
  refine z_iconst (v := (0 : Int32)) dX11_shades_39 rfl ?_
  refine z_callVi (As := [.int r8, .int x1, .int (0 : Int32)]) (st := []) dX11_shades_40 zi_X11_342 rfl rfl zs_19 rfl rfl (Nat.le_of_ble_eq_true rfl) (by decide) (fun _ _ hx => hx) h7 ?_
  intro r11 M9 h10
  exact z_iret dX11_shades_43 rfl rfl (by decide) h10
def w_X11_vinegar_63 (E : zEv) (D : Nat) (post : Int32 → zM → Prop) (px : String → zM → Prop)  (y1 : Int32) (y3 : Int32) (y4 : Int32) (M : zM) : Prop := Z E jX11_vinegar (D + 1) 2 (zQi post px) 63 2 [.ref 19, .int y1, zU, .int y3, .int y4] [] M
theorem e_X11_vinegar {E : zEv} {D : Nat} {post : Int32 → zM → Prop} {px : String → zM → Prop} {M : zM} {x1 : Int32} {x2 : Int32}  (h : zCv E jX11_needWitness D 1 [.ref 19, .int x1] M (fun M1 => zCv E jX11_needQuestion D 1 [.ref 19, .int x2] M1 (fun M3 => zCv E jX1_raise D 0 [.ref 43, .ref 61, .int x2, .int (M3.1 61 10)] M3 (fun M5 => vp_in x1 5 ∧ vp_in x1 5 ∧ zCv E jX3_copy D 0 [.ref 75, .ref 61] M5 (fun M11 => w_X11_vinegar_63 E D post px x1 ((M5.1 47 (x1).toNatClampNeg) - (M5.1 45 (x1).toNatClampNeg)) (0 : Int32) M11) px) px) px) px) : zCi E jX11_vinegar (D + 1) 2 [.ref 19, .int x1, .int x2] M post px := by
  refine z_meth (by decide) (Nat.le_of_ble_eq_true rfl) ?_
  show Z E jX11_vinegar (D + 1) 2 (zQi post px) 0 0 [.ref 19, .int x1, .int x2, zU, zU] [] M
  refine z_aload_n dX11_vinegar_0 rfl ?_
  refine z_iload_n dX11_vinegar_1 rfl ?_
  refine z_callVv (As := [.int x1]) (st := []) dX11_vinegar_2 zi_X11_136 rfl rfl zs_19 rfl rfl (Nat.le_of_ble_eq_true rfl) (by decide) (fun _ _ hx => hx) h ?_
  intro M1 h2
  refine z_aload_n dX11_vinegar_5 rfl ?_
  refine z_iload_n dX11_vinegar_6 rfl ?_
  refine z_callVv (As := [.int x2]) (st := []) dX11_vinegar_7 zi_X11_201 rfl rfl zs_19 rfl rfl (Nat.le_of_ble_eq_true rfl) (by decide) (fun _ _ hx => hx) h2 ?_
  intro M3 h4
  refine z_aload_n dX11_vinegar_10 rfl ?_
  refine z_getR dX11_vinegar_11 zg_X11_49 zs_19 rfl ?_
  refine z_aload_n dX11_vinegar_14 rfl ?_
  refine z_getR dX11_vinegar_15 zg_X11_29 zs_19 rfl ?_
  refine z_iload_n dX11_vinegar_18 rfl ?_
  refine z_aload_n dX11_vinegar_19 rfl ?_
  refine z_getR dX11_vinegar_20 zg_X11_29 zs_19 rfl ?_
  refine z_getI dX11_vinegar_23 zg_X11_189 zs_61 rfl ?_
  refine z_callVv (As := [.ref 61, .int x2, .int (M3.1 61 10)]) (st := []) dX11_vinegar_26 zi_X11_256 rfl rfl zs_43 rfl rfl (Nat.le_of_ble_eq_true rfl) (by decide) (fun _ _ hx => hx) h4 ?_
  intro M5 h6
  refine z_aload_n dX11_vinegar_29 rfl ?_
  refine z_getR dX11_vinegar_30 zg_X11_49 zs_19 rfl ?_
  refine z_getR dX11_vinegar_33 zg_X11_260 zs_43 rfl ?_
  refine z_iload_n dX11_vinegar_36 rfl ?_
  obtain ⟨g8, h7⟩ := h6
  refine z_iald dX11_vinegar_37 zs_47 g8 ?_
  refine z_aload_n dX11_vinegar_38 rfl ?_
  refine z_getR dX11_vinegar_39 zg_X11_49 zs_19 rfl ?_
  refine z_getR dX11_vinegar_42 zg_X11_346 zs_43 rfl ?_
  refine z_iload_n dX11_vinegar_45 rfl ?_
  obtain ⟨g10, h9⟩ := h7
  refine z_iald dX11_vinegar_46 zs_45 g10 ?_
  refine z_isub dX11_vinegar_47 ?_
  refine z_istore_n dX11_vinegar_48 (by decide) (ls' := [.ref 19, .int x1, .int x2, .int ((M5.1 47 (x1).toNatClampNeg) - (M5.1 45 (x1).toNatClampNeg)), zU]) rfl ?_
  refine z_aload_n dX11_vinegar_49 rfl ?_
  refine z_getR dX11_vinegar_50 zg_X11_33 zs_19 rfl ?_
  refine z_aload_n dX11_vinegar_53 rfl ?_
  refine z_getR dX11_vinegar_54 zg_X11_29 zs_19 rfl ?_
  refine z_callVv (As := [.ref 61]) (st := []) dX11_vinegar_57 zi_X11_89 rfl rfl zs_75 rfl rfl (Nat.le_of_ble_eq_true rfl) (by decide) (fun _ _ hx => hx) h9 ?_
  intro M11 h12
  refine z_iconst (v := (0 : Int32)) dX11_vinegar_60 rfl ?_
  refine z_istore dX11_vinegar_61 (by decide) (ls' := [.ref 19, .int x1, .int x2, .int ((M5.1 47 (x1).toNatClampNeg) - (M5.1 45 (x1).toNatClampNeg)), .int (0 : Int32)]) rfl ?_
  refine z_weak [true, true, false, true, true] (ls' := [.ref 19, .int x1, zU, .int ((M5.1 47 (x1).toNatClampNeg) - (M5.1 45 (x1).toNatClampNeg)), .int (0 : Int32)]) rfl rfl ?_
  exact h12
theorem t_X11_vinegar_63 {E : zEv} {D : Nat} {post : Int32 → zM → Prop} {px : String → zM → Prop} {M : zM}   {y1 : Int32} {y3 : Int32} {y4 : Int32} (h : (((99 : Int32) < y4 → post (-1 : Int32) M) ∧ (¬ (99 : Int32) < y4 → vp_in y1 5 ∧ ∀ M6 : zM, M6 = zup M 79 (y1).toNatClampNeg y4 → zCi E jX1_ownOf D 0 [.ref 43, .ref 75, .int y1] M6 (fun r10 M8 => vp_in y1 5 ∧ ∀ M13 : zM, M13 = zup M8 47 (y1).toNatClampNeg (y3 + r10) → zCi E jX1_isFoundOut D 0 [.ref 43, .ref 75, .int y1] M13 (fun r17 M15 => ((¬ r17 = 0 → w_X11_vinegar_63 E D post px y1 y3 (y4 + (1 : Int32)) M15) ∧ (r17 = 0 → post y4 M15))) px) px))) : w_X11_vinegar_63 E D post px y1 y3 y4 M := by
  show Z E jX11_vinegar (D + 1) 2 (zQi post px) 63 2 [.ref 19, .int y1, zU, .int y3, .int y4] [] M
  refine z_iload dX11_vinegar_63 rfl ?_
  refine z_bipush (v := (99 : Int32)) dX11_vinegar_65 rfl ?_
  refine z_icmp_gt (tgt := 131) dX11_vinegar_67 (by decide) (fun g1 => ?_) (fun g1 => ?_)
  · have h2 := h.1 g1
    refine z_iconst (v := (-1 : Int32)) dX11_vinegar_131 rfl ?_
    exact z_iret dX11_vinegar_132 rfl rfl (by decide) h2
  · have h3 := h.2 g1
    refine z_aload_n dX11_vinegar_70 rfl ?_
    refine z_getR dX11_vinegar_71 zg_X11_33 zs_19 rfl ?_
    refine z_getR dX11_vinegar_74 zg_X11_139 zs_75 rfl ?_
    refine z_getR dX11_vinegar_77 zg_X11_152 zs_76 rfl ?_
    refine z_iload_n dX11_vinegar_80 rfl ?_
    refine z_iload dX11_vinegar_81 rfl ?_
    obtain ⟨g5, h4⟩ := h3
    refine z_iast dX11_vinegar_83 zs_79 g5 ?_
    generalize hhM6 : zup M 79 (y1).toNatClampNeg y4 = M6
    have h7 := h4 M6 hhM6.symm
    refine z_aload_n dX11_vinegar_84 rfl ?_
    refine z_getR dX11_vinegar_85 zg_X11_49 zs_19 rfl ?_
    refine z_getR dX11_vinegar_88 zg_X11_260 zs_43 rfl ?_
    refine z_iload_n dX11_vinegar_91 rfl ?_
    refine z_iload_n dX11_vinegar_92 rfl ?_
    refine z_aload_n dX11_vinegar_93 rfl ?_
    refine z_getR dX11_vinegar_94 zg_X11_49 zs_19 rfl ?_
    refine z_aload_n dX11_vinegar_97 rfl ?_
    refine z_getR dX11_vinegar_98 zg_X11_33 zs_19 rfl ?_
    refine z_iload_n dX11_vinegar_101 rfl ?_
    refine z_callVi (As := [.ref 75, .int y1]) (st := [.int y3, .int y1, .ref 47]) dX11_vinegar_102 zi_X11_349 rfl rfl zs_43 rfl rfl (Nat.le_of_ble_eq_true rfl) (by decide) (fun _ _ hx => hx) h7 ?_
    intro r10 M8 h9
    refine z_iadd dX11_vinegar_105 ?_
    obtain ⟨g12, h11⟩ := h9
    refine z_iast dX11_vinegar_106 zs_47 g12 ?_
    generalize hhM13 : zup M8 47 (y1).toNatClampNeg (y3 + r10) = M13
    have h14 := h11 M13 hhM13.symm
    refine z_aload_n dX11_vinegar_107 rfl ?_
    refine z_getR dX11_vinegar_108 zg_X11_49 zs_19 rfl ?_
    refine z_aload_n dX11_vinegar_111 rfl ?_
    refine z_getR dX11_vinegar_112 zg_X11_33 zs_19 rfl ?_
    refine z_iload_n dX11_vinegar_115 rfl ?_
    refine z_callVi (As := [.ref 75, .int y1]) (st := []) dX11_vinegar_116 zi_X11_352 rfl rfl zs_43 rfl rfl (Nat.le_of_ble_eq_true rfl) (by decide) (fun _ _ hx => hx) h14 ?_
    intro r17 M15 h16
    refine z_if_ne (tgt := 125) dX11_vinegar_119 (by decide) (fun g18 => ?_) (fun g18 => ?_)
    · have h19 := h16.1 g18
      refine z_iinc dX11_vinegar_125 rfl (by decide) (ls' := [.ref 19, .int y1, zU, .int y3, .int (y4 + (1 : Int32))]) rfl ?_
      refine z_goto (tgt := 63) dX11_vinegar_128 (by decide) ?_
      exact h19
    · have h20 := h16.2 g18
      refine z_iload dX11_vinegar_122 rfl ?_
      exact z_iret dX11_vinegar_124 rfl rfl (by decide) h20
def w_X11_betrays_8 (E : zEv) (D : Nat) (post : Int32 → zM → Prop) (px : String → zM → Prop)  (y1 : Int32) (y2 : Int32) (y3 : Int32) (M : zM) : Prop := Z E jX11_betrays (D + 1) 3 (zQi post px) 8 3 [.ref 19, .int y1, .int y2, .int y3] [] M
def w_X11_betrays_63 (E : zEv) (D : Nat) (post : Int32 → zM → Prop) (px : String → zM → Prop)  (y1 : Int32) (y2 : Int32) (y3 : Int32) (M : zM) : Prop := Z E jX11_betrays (D + 1) 3 (zQi post px) 63 3 [.ref 19, .int y1, .int y2, .int y3] [] M
theorem e_X11_betrays {E : zEv} {D : Nat} {post : Int32 → zM → Prop} {px : String → zM → Prop} {M : zM} {x1 : Int32} {x2 : Int32}  (h : zCv E jX11_needTwo D 3 [.ref 19, .int x1, .int x2] M (fun M1 => w_X11_betrays_8 E D post px x1 x2 (0 : Int32) M1) px) : zCi E jX11_betrays (D + 1) 3 [.ref 19, .int x1, .int x2] M post px := by
  refine z_meth (by decide) (Nat.le_of_ble_eq_true rfl) ?_
  show Z E jX11_betrays (D + 1) 3 (zQi post px) 0 0 [.ref 19, .int x1, .int x2, zU] [] M
  refine z_aload_n dX11_betrays_0 rfl ?_
  refine z_iload_n dX11_betrays_1 rfl ?_
  refine z_iload_n dX11_betrays_2 rfl ?_
  refine z_callVv (As := [.int x1, .int x2]) (st := []) dX11_betrays_3 zi_X11_231 rfl rfl zs_19 rfl rfl (Nat.le_of_ble_eq_true rfl) (by decide) (fun _ _ hx => hx) h ?_
  intro M1 h2
  refine z_iconst (v := (0 : Int32)) dX11_betrays_6 rfl ?_
  refine z_istore_n dX11_betrays_7 (by decide) (ls' := [.ref 19, .int x1, .int x2, .int (0 : Int32)]) rfl ?_
  exact h2
theorem t_X11_betrays_8 {E : zEv} {D : Nat} {post : Int32 → zM → Prop} {px : String → zM → Prop} {M : zM}   {y1 : Int32} {y2 : Int32} {y3 : Int32} (h : (((M.1 61 7) ≤ y3 → post (0 : Int32) M) ∧ (¬ (M.1 61 7) ≤ y3 → zCv E jX1_raise D 0 [.ref 43, .ref 61, .int y3, .int (M.1 61 10)] M (fun M4 => vp_in y1 5 ∧ (((M4.1 44 (y1).toNatClampNeg) ≤ 0 → w_X11_betrays_63 E D post px y1 y2 y3 M4) ∧ (¬ (M4.1 44 (y1).toNatClampNeg) ≤ 0 → zCi E jX1_givesAway D 0 [.ref 43, .int y2] M4 (fun r13 M11 => ((r13 = 0 → w_X11_betrays_63 E D post px y1 y2 y3 M11) ∧ (¬ r13 = 0 → post (1 : Int32) M11))) px))) px))) : w_X11_betrays_8 E D post px y1 y2 y3 M := by
  show Z E jX11_betrays (D + 1) 3 (zQi post px) 8 3 [.ref 19, .int y1, .int y2, .int y3] [] M
  refine z_iload_n dX11_betrays_8 rfl ?_
  refine z_aload_n dX11_betrays_9 rfl ?_
  refine z_getR dX11_betrays_10 zg_X11_29 zs_19 rfl ?_
  refine z_getI dX11_betrays_13 zg_X11_296 zs_61 rfl ?_
  refine z_icmp_ge (tgt := 69) dX11_betrays_16 (by decide) (fun g1 => ?_) (fun g1 => ?_)
  · have h2 := h.1 g1
    refine z_iconst (v := (0 : Int32)) dX11_betrays_69 rfl ?_
    exact z_iret dX11_betrays_70 rfl (by decide) (by decide) h2
  · have h3 := h.2 g1
    refine z_aload_n dX11_betrays_19 rfl ?_
    refine z_getR dX11_betrays_20 zg_X11_49 zs_19 rfl ?_
    refine z_aload_n dX11_betrays_23 rfl ?_
    refine z_getR dX11_betrays_24 zg_X11_29 zs_19 rfl ?_
    refine z_iload_n dX11_betrays_27 rfl ?_
    refine z_aload_n dX11_betrays_28 rfl ?_
    refine z_getR dX11_betrays_29 zg_X11_29 zs_19 rfl ?_
    refine z_getI dX11_betrays_32 zg_X11_189 zs_61 rfl ?_
    refine z_callVv (As := [.ref 61, .int y3, .int (M.1 61 10)]) (st := []) dX11_betrays_35 zi_X11_256 rfl rfl zs_43 rfl rfl (Nat.le_of_ble_eq_true rfl) (by decide) (fun _ _ hx => hx) h3 ?_
    intro M4 h5
    refine z_aload_n dX11_betrays_38 rfl ?_
    refine z_getR dX11_betrays_39 zg_X11_49 zs_19 rfl ?_
    refine z_getR dX11_betrays_42 zg_X11_356 zs_43 rfl ?_
    refine z_iload_n dX11_betrays_45 rfl ?_
    obtain ⟨g7, h6⟩ := h5
    refine z_iald dX11_betrays_46 zs_44 g7 ?_
    refine z_if_le (tgt := 63) dX11_betrays_47 (by decide) (fun g8 => ?_) (fun g8 => ?_)
    · have h9 := h6.1 g8
      exact h9
    · have h10 := h6.2 g8
      refine z_aload_n dX11_betrays_50 rfl ?_
      refine z_getR dX11_betrays_51 zg_X11_49 zs_19 rfl ?_
      refine z_iload_n dX11_betrays_54 rfl ?_
      refine z_callVi (As := [.int y2]) (st := []) dX11_betrays_55 zi_X11_270 rfl rfl zs_43 rfl rfl (Nat.le_of_ble_eq_true rfl) (by decide) (fun _ _ hx => hx) h10 ?_
      intro r13 M11 h12
      refine z_if_eq (tgt := 63) dX11_betrays_58 (by decide) (fun g14 => ?_) (fun g14 => ?_)
      · have h15 := h12.1 g14
        exact h15
      · have h16 := h12.2 g14
        refine z_iconst (v := (1 : Int32)) dX11_betrays_61 rfl ?_
        exact z_iret dX11_betrays_62 rfl (by decide) (by decide) h16
theorem t_X11_betrays_63 {E : zEv} {D : Nat} {post : Int32 → zM → Prop} {px : String → zM → Prop} {M : zM}   {y1 : Int32} {y2 : Int32} {y3 : Int32} (h : w_X11_betrays_8 E D post px y1 y2 (y3 + (1 : Int32)) M) : w_X11_betrays_63 E D post px y1 y2 y3 M := by
  show Z E jX11_betrays (D + 1) 3 (zQi post px) 63 3 [.ref 19, .int y1, .int y2, .int y3] [] M
  refine z_iinc dX11_betrays_63 rfl (by decide) (ls' := [.ref 19, .int y1, .int y2, .int (y3 + (1 : Int32))]) rfl ?_
  refine z_goto (tgt := 8) dX11_betrays_66 (by decide) ?_
  exact h
def w_X11_heats_17 (E : zEv) (D : Nat) (post : Int32 → zM → Prop) (px : String → zM → Prop)  (y1 : Int32) (y2 : Int32) (y3 : Int32) (M : zM) : Prop := Z E jX11_heats (D + 1) 0 (zQi post px) 17 0 [.ref 19, .int y1, .int y2, .int y3, zU] [] M
def w_X11_heats_55 (E : zEv) (D : Nat) (post : Int32 → zM → Prop) (px : String → zM → Prop)  (y1 : Int32) (y2 : Int32) (y3 : Int32) (M : zM) : Prop := Z E jX11_heats (D + 1) 0 (zQi post px) 55 0 [.ref 19, .int y1, .int y2, .int y3, zU] [] M
theorem e_X11_heats {E : zEv} {D : Nat} {post : Int32 → zM → Prop} {px : String → zM → Prop} {M : zM}   (h : zCv E jX3_copy D 0 [.ref 75, .ref 61] M (fun M1 => w_X11_heats_17 E D post px (0 : Int32) (-1 : Int32) (0 : Int32) M1) px) : zCi E jX11_heats (D + 1) 0 [.ref 19] M post px := by
  refine z_meth (by decide) (Nat.le_of_ble_eq_true rfl) ?_
  show Z E jX11_heats (D + 1) 0 (zQi post px) 0 0 [.ref 19, zU, zU, zU, zU] [] M
  refine z_aload_n dX11_heats_0 rfl ?_
  refine z_getR dX11_heats_1 zg_X11_33 zs_19 rfl ?_
  refine z_aload_n dX11_heats_4 rfl ?_
  refine z_getR dX11_heats_5 zg_X11_29 zs_19 rfl ?_
  refine z_callVv (As := [.ref 61]) (st := []) dX11_heats_8 zi_X11_89 rfl rfl zs_75 rfl rfl (Nat.le_of_ble_eq_true rfl) (by decide) (fun _ _ hx => hx) h ?_
  intro M1 h2
  refine z_iconst (v := (0 : Int32)) dX11_heats_11 rfl ?_
  refine z_istore_n dX11_heats_12 (by decide) (ls' := [.ref 19, .int (0 : Int32), zU, zU, zU]) rfl ?_
  refine z_iconst (v := (-1 : Int32)) dX11_heats_13 rfl ?_
  refine z_istore_n dX11_heats_14 (by decide) (ls' := [.ref 19, .int (0 : Int32), .int (-1 : Int32), zU, zU]) rfl ?_
  refine z_iconst (v := (0 : Int32)) dX11_heats_15 rfl ?_
  refine z_istore_n dX11_heats_16 (by decide) (ls' := [.ref 19, .int (0 : Int32), .int (-1 : Int32), .int (0 : Int32), zU]) rfl ?_
  exact h2
theorem t_X11_heats_17 {E : zEv} {D : Nat} {post : Int32 → zM → Prop} {px : String → zM → Prop} {M : zM}   {y1 : Int32} {y2 : Int32} {y3 : Int32} (h : (((9 : Int32) < y3 → post y1 M) ∧ (¬ (9 : Int32) < y3 → ∀ M4 : zM, M4 = zup M 75 11 y3 → zCi E jX1_wouldBePale D 0 [.ref 43, .ref 75] M4 (fun r8 M6 => ((r8 ≤ y2 → w_X11_heats_55 E D post px y1 y2 y3 M6) ∧ (¬ r8 ≤ y2 → w_X11_heats_55 E D post px y3 r8 y3 M6))) px))) : w_X11_heats_17 E D post px y1 y2 y3 M := by
  show Z E jX11_heats (D + 1) 0 (zQi post px) 17 0 [.ref 19, .int y1, .int y2, .int y3, zU] [] M
  refine z_iload_n dX11_heats_17 rfl ?_
  refine z_bipush (v := (9 : Int32)) dX11_heats_18 rfl ?_
  refine z_icmp_gt (tgt := 61) dX11_heats_20 (by decide) (fun g1 => ?_) (fun g1 => ?_)
  · have h2 := h.1 g1
    refine z_iload_n dX11_heats_61 rfl ?_
    exact z_iret dX11_heats_62 rfl rfl (by decide) h2
  · have h3 := h.2 g1
    refine z_aload_n dX11_heats_23 rfl ?_
    refine z_getR dX11_heats_24 zg_X11_33 zs_19 rfl ?_
    refine z_iload_n dX11_heats_27 rfl ?_
    refine z_putI dX11_heats_28 zp_X11_248 zs_75 rfl rfl rfl ?_
    generalize hhM4 : zup M 75 11 y3 = M4
    have h5 := h3 M4 hhM4.symm
    refine z_aload_n dX11_heats_31 rfl ?_
    refine z_getR dX11_heats_32 zg_X11_49 zs_19 rfl ?_
    refine z_aload_n dX11_heats_35 rfl ?_
    refine z_getR dX11_heats_36 zg_X11_33 zs_19 rfl ?_
    refine z_callVi (As := [.ref 75]) (st := []) dX11_heats_39 zi_X11_357 rfl rfl zs_43 rfl rfl (Nat.le_of_ble_eq_true rfl) (by decide) (fun _ _ hx => hx) h5 ?_
    intro r8 M6 h7
    refine z_istore dX11_heats_42 (by decide) (ls' := [.ref 19, .int y1, .int y2, .int y3, .int r8]) rfl ?_
    refine z_iload dX11_heats_44 rfl ?_
    refine z_iload_n dX11_heats_46 rfl ?_
    refine z_icmp_le (tgt := 55) dX11_heats_47 (by decide) (fun g9 => ?_) (fun g9 => ?_)
    · have h10 := h7.1 g9
      refine z_weak [true, true, true, true, false] (ls' := [.ref 19, .int y1, .int y2, .int y3, zU]) rfl rfl ?_
      exact h10
    · have h11 := h7.2 g9
      refine z_iload_n dX11_heats_50 rfl ?_
      refine z_istore_n dX11_heats_51 (by decide) (ls' := [.ref 19, .int y3, .int y2, .int y3, .int r8]) rfl ?_
      refine z_iload dX11_heats_52 rfl ?_
      refine z_istore_n dX11_heats_54 (by decide) (ls' := [.ref 19, .int y3, .int r8, .int y3, .int r8]) rfl ?_
      refine z_weak [true, true, true, true, false] (ls' := [.ref 19, .int y3, .int r8, .int y3, zU]) rfl rfl ?_
      exact h11
theorem t_X11_heats_55 {E : zEv} {D : Nat} {post : Int32 → zM → Prop} {px : String → zM → Prop} {M : zM}   {y1 : Int32} {y2 : Int32} {y3 : Int32} (h : w_X11_heats_17 E D post px y1 y2 (y3 + (1 : Int32)) M) : w_X11_heats_55 E D post px y1 y2 y3 M := by
  show Z E jX11_heats (D + 1) 0 (zQi post px) 55 0 [.ref 19, .int y1, .int y2, .int y3, zU] [] M
  refine z_iinc dX11_heats_55 rfl (by decide) (ls' := [.ref 19, .int y1, .int y2, .int (y3 + (1 : Int32)), zU]) rfl ?_
  refine z_goto (tgt := 17) dX11_heats_58 (by decide) ?_
  exact h
def w_X11_couples_10 (E : zEv) (D : Nat) (post : Int32 → zM → Prop) (px : String → zM → Prop)  (y1 : Int32) (M : zM) : Prop := Z E jX11_couples (D + 1) 1 (zQi post px) 10 1 [.ref 19, .int y1] [] M
def w_X11_couples_45 (E : zEv) (D : Nat) (post : Int32 → zM → Prop) (px : String → zM → Prop)  (s0 : Int32) (M : zM) : Prop := Z E jX11_couples (D + 1) 1 (zQi post px) 45 1 [zU, zU] [.int s0] M
theorem e_X11_couples {E : zEv} {D : Nat} {post : Int32 → zM → Prop} {px : String → zM → Prop} {M : zM} {x1 : Int32}  (h : ((x1 = (-1 : Int32) → w_X11_couples_10 E D post px x1 M) ∧ (¬ x1 = (-1 : Int32) → zCv E jX11_needWoman D 1 [.ref 19, .int x1] M (fun M4 => w_X11_couples_10 E D post px x1 M4) px))) : zCi E jX11_couples (D + 1) 1 [.ref 19, .int x1] M post px := by
  refine z_meth (by decide) (Nat.le_of_ble_eq_true rfl) ?_
  show Z E jX11_couples (D + 1) 1 (zQi post px) 0 0 [.ref 19, .int x1] [] M
  refine z_iload_n dX11_couples_0 rfl ?_
  refine z_iconst (v := (-1 : Int32)) dX11_couples_1 rfl ?_
  refine z_icmp_eq (tgt := 10) dX11_couples_2 (by decide) (fun g1 => ?_) (fun g1 => ?_)
  · have h2 := h.1 g1
    refine z_more (k' := 1) (by decide) ?_
    exact h2
  · have h3 := h.2 g1
    refine z_aload_n dX11_couples_5 rfl ?_
    refine z_iload_n dX11_couples_6 rfl ?_
    refine z_callVv (As := [.int x1]) (st := []) dX11_couples_7 zi_X11_207 rfl rfl zs_19 rfl rfl (Nat.le_of_ble_eq_true rfl) (by decide) (fun _ _ hx => hx) h3 ?_
    intro M4 h5
    exact h5
theorem t_X11_couples_10 {E : zEv} {D : Nat} {post : Int32 → zM → Prop} {px : String → zM → Prop} {M : zM}   {y1 : Int32} (h : zCv E jX2_search D 0 [.ref 56, .ref 61] M (fun M1 => ((¬ y1 = (-1 : Int32) → vp_in y1 4 ∧ w_X11_couples_45 E D post px (M1.1 57 (y1).toNatClampNeg) M1) ∧ (y1 = (-1 : Int32) → w_X11_couples_45 E D post px (M1.1 56 2) M1))) px) : w_X11_couples_10 E D post px y1 M := by
  show Z E jX11_couples (D + 1) 1 (zQi post px) 10 1 [.ref 19, .int y1] [] M
  refine z_aload_n dX11_couples_10 rfl ?_
  refine z_getR dX11_couples_11 zg_X11_70 zs_19 rfl ?_
  refine z_aload_n dX11_couples_14 rfl ?_
  refine z_getR dX11_couples_15 zg_X11_29 zs_19 rfl ?_
  refine z_callVv (As := [.ref 61]) (st := []) dX11_couples_18 zi_X11_361 rfl rfl zs_56 rfl rfl (Nat.le_of_ble_eq_true rfl) (by decide) (fun _ _ hx => hx) h ?_
  intro M1 h2
  refine z_iload_n dX11_couples_21 rfl ?_
  refine z_iconst (v := (-1 : Int32)) dX11_couples_22 rfl ?_
  refine z_icmp_ne (tgt := 36) dX11_couples_23 (by decide) (fun g3 => ?_) (fun g3 => ?_)
  · have h4 := h2.1 g3
    refine z_aload_n dX11_couples_36 rfl ?_
    refine z_getR dX11_couples_37 zg_X11_70 zs_19 rfl ?_
    refine z_getR dX11_couples_40 zg_X11_366 zs_56 rfl ?_
    refine z_iload_n dX11_couples_43 rfl ?_
    obtain ⟨g7, h6⟩ := h4
    refine z_iald dX11_couples_44 zs_57 g7 ?_
    refine z_weak [false, false] (ls' := [zU, zU]) rfl rfl ?_
    exact h6
  · have h5 := h2.2 g3
    refine z_aload_n dX11_couples_26 rfl ?_
    refine z_getR dX11_couples_27 zg_X11_70 zs_19 rfl ?_
    refine z_getI dX11_couples_30 zg_X11_363 zs_56 rfl ?_
    refine z_goto (tgt := 45) dX11_couples_33 (by decide) ?_
    refine z_weak [false, false] (ls' := [zU, zU]) rfl rfl ?_
    exact h5
theorem t_X11_couples_45 {E : zEv} {D : Nat} {post : Int32 → zM → Prop} {px : String → zM → Prop} {M : zM}   {s0 : Int32} (h : post s0 M) : w_X11_couples_45 E D post px s0 M := by
  show Z E jX11_couples (D + 1) 1 (zQi post px) 45 1 [zU, zU] [.int s0] M
  exact z_iret dX11_couples_45 rfl rfl (by decide) h
def w_X11_between_71 (E : zEv) (D : Nat) (post : Int32 → zM → Prop) (px : String → zM → Prop)  (y4 : Int32) (y5 : Int32) (y6 : Int32) (M : zM) : Prop := Z E jX11_between (D + 1) 3 (zQi post px) 71 3 [.ref 19, zU, zU, zU, .int y4, .int y5, .int y6] [] M
theorem e_X11_between {E : zEv} {D : Nat} {post : Int32 → zM → Prop} {px : String → zM → Prop} {M : zM} {x1 : Int32} {x2 : Int32}  (h : zCv E jX11_needTwo D 3 [.ref 19, .int x1, .int x2] M (fun M1 => vp_in x1 5 ∧ vp_in x2 5 ∧ vp_in x1 5 ∧ vp_in x2 5 ∧ w_X11_between_71 E D post px (zmax (M1.1 67 (x1).toNatClampNeg) (M1.1 67 (x2).toNatClampNeg)) (0 : Int32) ((zmin (M1.1 67 (x1).toNatClampNeg) (M1.1 67 (x2).toNatClampNeg)) + (1 : Int32)) M1) px) : zCi E jX11_between (D + 1) 3 [.ref 19, .int x1, .int x2] M post px := by
  refine z_meth (by decide) (Nat.le_of_ble_eq_true rfl) ?_
  show Z E jX11_between (D + 1) 3 (zQi post px) 0 0 [.ref 19, .int x1, .int x2, zU, zU, zU, zU] [] M
  refine z_aload_n dX11_between_0 rfl ?_
  refine z_iload_n dX11_between_1 rfl ?_
  refine z_iload_n dX11_between_2 rfl ?_
  refine z_callVv (As := [.int x1, .int x2]) (st := []) dX11_between_3 zi_X11_231 rfl rfl zs_19 rfl rfl (Nat.le_of_ble_eq_true rfl) (by decide) (fun _ _ hx => hx) h ?_
  intro M1 h2
  refine z_aload_n dX11_between_6 rfl ?_
  refine z_getR dX11_between_7 zg_X11_29 zs_19 rfl ?_
  refine z_getR dX11_between_10 zg_X11_139 zs_61 rfl ?_
  refine z_getR dX11_between_13 zg_X11_158 zs_62 rfl ?_
  refine z_iload_n dX11_between_16 rfl ?_
  obtain ⟨g4, h3⟩ := h2
  refine z_iald dX11_between_17 zs_67 g4 ?_
  refine z_aload_n dX11_between_18 rfl ?_
  refine z_getR dX11_between_19 zg_X11_29 zs_19 rfl ?_
  refine z_getR dX11_between_22 zg_X11_139 zs_61 rfl ?_
  refine z_getR dX11_between_25 zg_X11_158 zs_62 rfl ?_
  refine z_iload_n dX11_between_28 rfl ?_
  obtain ⟨g6, h5⟩ := h3
  refine z_iald dX11_between_29 zs_67 g6 ?_
  refine z_min dX11_between_30 zm_X11_240 (Nat.le_of_ble_eq_true rfl) (by decide) ?_
  refine z_istore_n dX11_between_33 (by decide) (ls' := [.ref 19, .int x1, .int x2, .int (zmin (M1.1 67 (x1).toNatClampNeg) (M1.1 67 (x2).toNatClampNeg)), zU, zU, zU]) rfl ?_
  refine z_aload_n dX11_between_34 rfl ?_
  refine z_getR dX11_between_35 zg_X11_29 zs_19 rfl ?_
  refine z_getR dX11_between_38 zg_X11_139 zs_61 rfl ?_
  refine z_getR dX11_between_41 zg_X11_158 zs_62 rfl ?_
  refine z_iload_n dX11_between_44 rfl ?_
  obtain ⟨g8, h7⟩ := h5
  refine z_iald dX11_between_45 zs_67 g8 ?_
  refine z_aload_n dX11_between_46 rfl ?_
  refine z_getR dX11_between_47 zg_X11_29 zs_19 rfl ?_
  refine z_getR dX11_between_50 zg_X11_139 zs_61 rfl ?_
  refine z_getR dX11_between_53 zg_X11_158 zs_62 rfl ?_
  refine z_iload_n dX11_between_56 rfl ?_
  obtain ⟨g10, h9⟩ := h7
  refine z_iald dX11_between_57 zs_67 g10 ?_
  refine z_max dX11_between_58 zm_X11_367 (Nat.le_of_ble_eq_true rfl) (by decide) ?_
  refine z_istore dX11_between_61 (by decide) (ls' := [.ref 19, .int x1, .int x2, .int (zmin (M1.1 67 (x1).toNatClampNeg) (M1.1 67 (x2).toNatClampNeg)), .int (zmax (M1.1 67 (x1).toNatClampNeg) (M1.1 67 (x2).toNatClampNeg)), zU, zU]) rfl ?_
  refine z_iconst (v := (0 : Int32)) dX11_between_63 rfl ?_
  refine z_istore dX11_between_64 (by decide) (ls' := [.ref 19, .int x1, .int x2, .int (zmin (M1.1 67 (x1).toNatClampNeg) (M1.1 67 (x2).toNatClampNeg)), .int (zmax (M1.1 67 (x1).toNatClampNeg) (M1.1 67 (x2).toNatClampNeg)), .int (0 : Int32), zU]) rfl ?_
  refine z_iload_n dX11_between_66 rfl ?_
  refine z_iconst (v := (1 : Int32)) dX11_between_67 rfl ?_
  refine z_iadd dX11_between_68 ?_
  refine z_istore dX11_between_69 (by decide) (ls' := [.ref 19, .int x1, .int x2, .int (zmin (M1.1 67 (x1).toNatClampNeg) (M1.1 67 (x2).toNatClampNeg)), .int (zmax (M1.1 67 (x1).toNatClampNeg) (M1.1 67 (x2).toNatClampNeg)), .int (0 : Int32), .int ((zmin (M1.1 67 (x1).toNatClampNeg) (M1.1 67 (x2).toNatClampNeg)) + (1 : Int32))]) rfl ?_
  refine z_weak [true, false, false, false, true, true, true] (ls' := [.ref 19, zU, zU, zU, .int (zmax (M1.1 67 (x1).toNatClampNeg) (M1.1 67 (x2).toNatClampNeg)), .int (0 : Int32), .int ((zmin (M1.1 67 (x1).toNatClampNeg) (M1.1 67 (x2).toNatClampNeg)) + (1 : Int32))]) rfl rfl ?_
  exact h9
theorem t_X11_between_71 {E : zEv} {D : Nat} {post : Int32 → zM → Prop} {px : String → zM → Prop} {M : zM}   {y4 : Int32} {y5 : Int32} {y6 : Int32} (h : ((y4 ≤ y6 → post y5 M) ∧ (¬ y4 ≤ y6 → vp_in y6 5 ∧ w_X11_between_71 E D post px y4 (y5 ||| ((1 : Int32) <<< ((M.1 68 (y6).toNatClampNeg) &&& 31))) (y6 + (1 : Int32)) M))) : w_X11_between_71 E D post px y4 y5 y6 M := by
  show Z E jX11_between (D + 1) 3 (zQi post px) 71 3 [.ref 19, zU, zU, zU, .int y4, .int y5, .int y6] [] M
  refine z_iload dX11_between_71 rfl ?_
  refine z_iload dX11_between_73 rfl ?_
  refine z_icmp_ge (tgt := 104) dX11_between_75 (by decide) (fun g1 => ?_) (fun g1 => ?_)
  · have h2 := h.1 g1
    refine z_iload dX11_between_104 rfl ?_
    exact z_iret dX11_between_106 rfl rfl (by decide) h2
  · have h3 := h.2 g1
    refine z_iload dX11_between_78 rfl ?_
    refine z_iconst (v := (1 : Int32)) dX11_between_80 rfl ?_
    refine z_aload_n dX11_between_81 rfl ?_
    refine z_getR dX11_between_82 zg_X11_29 zs_19 rfl ?_
    refine z_getR dX11_between_85 zg_X11_139 zs_61 rfl ?_
    refine z_getR dX11_between_88 zg_X11_216 zs_62 rfl ?_
    refine z_iload dX11_between_91 rfl ?_
    obtain ⟨g5, h4⟩ := h3
    refine z_iald dX11_between_93 zs_68 g5 ?_
    refine z_ishl dX11_between_94 ?_
    refine z_ior dX11_between_95 ?_
    refine z_istore dX11_between_96 (by decide) (ls' := [.ref 19, zU, zU, zU, .int y4, .int (y5 ||| ((1 : Int32) <<< ((M.1 68 (y6).toNatClampNeg) &&& 31))), .int y6]) rfl ?_
    refine z_iinc dX11_between_98 rfl (by decide) (ls' := [.ref 19, zU, zU, zU, .int y4, .int (y5 ||| ((1 : Int32) <<< ((M.1 68 (y6).toNatClampNeg) &&& 31))), .int (y6 + (1 : Int32))]) rfl ?_
    refine z_goto (tgt := 71) dX11_between_101 (by decide) ?_
    exact h4
def w_X11_alone_4 (E : zEv) (D : Nat) (post : Int32 → zM → Prop) (px : String → zM → Prop)  (y1 : Int32) (y2 : Int32) (M : zM) : Prop := Z E jX11_alone (D + 1) 0 (zQi post px) 4 0 [.ref 19, .int y1, .int y2] [] M
def w_X11_alone_43 (E : zEv) (D : Nat) (post : Int32 → zM → Prop) (px : String → zM → Prop)  (y1 : Int32) (y2 : Int32) (M : zM) : Prop := Z E jX11_alone (D + 1) 0 (zQi post px) 43 0 [.ref 19, .int y1, .int y2] [] M
theorem e_X11_alone {E : zEv} {D : Nat} {post : Int32 → zM → Prop} {px : String → zM → Prop} {M : zM}   (h : w_X11_alone_4 E D post px (0 : Int32) (0 : Int32) M) : zCi E jX11_alone (D + 1) 0 [.ref 19] M post px := by
  refine z_meth (by decide) (Nat.le_of_ble_eq_true rfl) ?_
  show Z E jX11_alone (D + 1) 0 (zQi post px) 0 0 [.ref 19, zU, zU] [] M
  refine z_iconst (v := (0 : Int32)) dX11_alone_0 rfl ?_
  refine z_istore_n dX11_alone_1 (by decide) (ls' := [.ref 19, .int (0 : Int32), zU]) rfl ?_
  refine z_iconst (v := (0 : Int32)) dX11_alone_2 rfl ?_
  refine z_istore_n dX11_alone_3 (by decide) (ls' := [.ref 19, .int (0 : Int32), .int (0 : Int32)]) rfl ?_
  exact h
theorem t_X11_alone_4 {E : zEv} {D : Nat} {post : Int32 → zM → Prop} {px : String → zM → Prop} {M : zM}   {y1 : Int32} {y2 : Int32} (h : (((M.1 61 7) ≤ y2 → post y1 M) ∧ (¬ (M.1 61 7) ≤ y2 → vp_in y2 8 ∧ zCi E jJ6_bitCount_0f7a4 D 0 [.int (M.1 73 (y2).toNatClampNeg)] M (fun r8 M6 => ((¬ r8 = (1 : Int32) → w_X11_alone_43 E D post px y1 y2 M6) ∧ (r8 = (1 : Int32) → vp_in y2 8 ∧ w_X11_alone_43 E D post px (y1 ||| (M6.1 73 (y2).toNatClampNeg)) y2 M6))) px))) : w_X11_alone_4 E D post px y1 y2 M := by
  show Z E jX11_alone (D + 1) 0 (zQi post px) 4 0 [.ref 19, .int y1, .int y2] [] M
  refine z_iload_n dX11_alone_4 rfl ?_
  refine z_aload_n dX11_alone_5 rfl ?_
  refine z_getR dX11_alone_6 zg_X11_29 zs_19 rfl ?_
  refine z_getI dX11_alone_9 zg_X11_296 zs_61 rfl ?_
  refine z_icmp_ge (tgt := 49) dX11_alone_12 (by decide) (fun g1 => ?_) (fun g1 => ?_)
  · have h2 := h.1 g1
    refine z_iload_n dX11_alone_49 rfl ?_
    exact z_iret dX11_alone_50 rfl rfl (by decide) h2
  · have h3 := h.2 g1
    refine z_aload_n dX11_alone_15 rfl ?_
    refine z_getR dX11_alone_16 zg_X11_29 zs_19 rfl ?_
    refine z_getR dX11_alone_19 zg_X11_204 zs_61 rfl ?_
    refine z_iload_n dX11_alone_22 rfl ?_
    obtain ⟨g5, h4⟩ := h3
    refine z_iald dX11_alone_23 zs_73 g5 ?_
    refine z_callSi (As := [.int (M.1 73 (y2).toNatClampNeg)]) (st := []) dX11_alone_24 zi_X11_334 rfl rfl (Nat.le_of_ble_eq_true rfl) (by decide) (fun _ _ hx => hx) h4 ?_
    intro r8 M6 h7
    refine z_iconst (v := (1 : Int32)) dX11_alone_27 rfl ?_
    refine z_icmp_ne (tgt := 43) dX11_alone_28 (by decide) (fun g9 => ?_) (fun g9 => ?_)
    · have h10 := h7.1 g9
      exact h10
    · have h11 := h7.2 g9
      refine z_iload_n dX11_alone_31 rfl ?_
      refine z_aload_n dX11_alone_32 rfl ?_
      refine z_getR dX11_alone_33 zg_X11_29 zs_19 rfl ?_
      refine z_getR dX11_alone_36 zg_X11_204 zs_61 rfl ?_
      refine z_iload_n dX11_alone_39 rfl ?_
      obtain ⟨g13, h12⟩ := h11
      refine z_iald dX11_alone_40 zs_73 g13 ?_
      refine z_ior dX11_alone_41 ?_
      refine z_istore_n dX11_alone_42 (by decide) (ls' := [.ref 19, .int (y1 ||| (M6.1 73 (y2).toNatClampNeg)), .int y2]) rfl ?_
      exact h12
theorem t_X11_alone_43 {E : zEv} {D : Nat} {post : Int32 → zM → Prop} {px : String → zM → Prop} {M : zM}   {y1 : Int32} {y2 : Int32} (h : w_X11_alone_4 E D post px y1 (y2 + (1 : Int32)) M) : w_X11_alone_43 E D post px y1 y2 M := by
  show Z E jX11_alone (D + 1) 0 (zQi post px) 43 0 [.ref 19, .int y1, .int y2] [] M
  refine z_iinc dX11_alone_43 rfl (by decide) (ls' := [.ref 19, .int y1, .int (y2 + (1 : Int32))]) rfl ?_
  refine z_goto (tgt := 4) dX11_alone_46 (by decide) ?_
  exact h
def w_X11_rests_70 (E : zEv) (D : Nat) (post : Int32 → zM → Prop) (px : String → zM → Prop)  (y3 : Int32) (y4 : Int32) (y5 : Int32) (y6 : Int32) (y7 : Int32) (M : zM) : Prop := Z E jX11_rests (D + 1) 2 (zQi post px) 70 2 [zU, zU, zU, .int y3, .int y4, .int y5, .int y6, .int y7, zU, zU, zU] [] M
def w_X11_rests_79 (E : zEv) (D : Nat) (post : Int32 → zM → Prop) (px : String → zM → Prop)  (y3 : Int32) (y4 : Int32) (y5 : Int32) (y6 : Int32) (y7 : Int32) (y8 : Int32) (M : zM) : Prop := Z E jX11_rests (D + 1) 2 (zQi post px) 79 2 [zU, zU, zU, .int y3, .int y4, .int y5, .int y6, .int y7, .int y8, zU, zU] [] M
def w_X11_rests_115 (E : zEv) (D : Nat) (post : Int32 → zM → Prop) (px : String → zM → Prop)  (y3 : Int32) (y4 : Int32) (y5 : Int32) (y6 : Int32) (y7 : Int32) (y8 : Int32) (s0 : Int32) (M : zM) : Prop := Z E jX11_rests (D + 1) 2 (zQi post px) 115 2 [zU, zU, zU, .int y3, .int y4, .int y5, .int y6, .int y7, .int y8, zU, zU] [.int s0] M
def w_X11_rests_145 (E : zEv) (D : Nat) (post : Int32 → zM → Prop) (px : String → zM → Prop)  (y3 : Int32) (y4 : Int32) (y5 : Int32) (y6 : Int32) (y7 : Int32) (y8 : Int32) (y9 : Int32) (s0 : Int32) (M : zM) : Prop := Z E jX11_rests (D + 1) 2 (zQi post px) 145 2 [zU, zU, zU, .int y3, .int y4, .int y5, .int y6, .int y7, .int y8, .int y9, zU] [.int s0] M
def w_X11_rests_171 (E : zEv) (D : Nat) (post : Int32 → zM → Prop) (px : String → zM → Prop)  (y3 : Int32) (y4 : Int32) (y5 : Int32) (y6 : Int32) (y7 : Int32) (y8 : Int32) (M : zM) : Prop := Z E jX11_rests (D + 1) 2 (zQi post px) 171 2 [zU, zU, zU, .int y3, .int y4, .int y5, .int y6, .int y7, .int y8, zU, zU] [] M
theorem e_X11_rests {E : zEv} {D : Nat} {post : Int32 → zM → Prop} {px : String → zM → Prop} {M : zM} {x1 : Int32} {x2 : Int32}  (h : zCv E jX11_needWitness D 1 [.ref 19, .int x1] M (fun M1 => zCv E jX11_needQuestion D 1 [.ref 19, .int x2] M1 (fun M3 => zCv E jX1_raise D 0 [.ref 43, .ref 61, .int x2, .int (M3.1 61 10)] M3 (fun M5 => vp_in x1 5 ∧ vp_in x1 5 ∧ vp_in x1 5 ∧ w_X11_rests_70 E D post px (M5.1 64 (x1).toNatClampNeg) (M5.1 47 (x1).toNatClampNeg) (M5.1 44 (x1).toNatClampNeg) (0 : Int32) (0 : Int32) M5) px) px) px) : zCi E jX11_rests (D + 1) 2 [.ref 19, .int x1, .int x2] M post px := by
  refine z_meth (by decide) (Nat.le_of_ble_eq_true rfl) ?_
  show Z E jX11_rests (D + 1) 2 (zQi post px) 0 0 [.ref 19, .int x1, .int x2, zU, zU, zU, zU, zU, zU, zU, zU] [] M
  refine z_aload_n dX11_rests_0 rfl ?_
  refine z_iload_n dX11_rests_1 rfl ?_
  refine z_callVv (As := [.int x1]) (st := []) dX11_rests_2 zi_X11_136 rfl rfl zs_19 rfl rfl (Nat.le_of_ble_eq_true rfl) (by decide) (fun _ _ hx => hx) h ?_
  intro M1 h2
  refine z_aload_n dX11_rests_5 rfl ?_
  refine z_iload_n dX11_rests_6 rfl ?_
  refine z_callVv (As := [.int x2]) (st := []) dX11_rests_7 zi_X11_201 rfl rfl zs_19 rfl rfl (Nat.le_of_ble_eq_true rfl) (by decide) (fun _ _ hx => hx) h2 ?_
  intro M3 h4
  refine z_aload_n dX11_rests_10 rfl ?_
  refine z_getR dX11_rests_11 zg_X11_49 zs_19 rfl ?_
  refine z_aload_n dX11_rests_14 rfl ?_
  refine z_getR dX11_rests_15 zg_X11_29 zs_19 rfl ?_
  refine z_iload_n dX11_rests_18 rfl ?_
  refine z_aload_n dX11_rests_19 rfl ?_
  refine z_getR dX11_rests_20 zg_X11_29 zs_19 rfl ?_
  refine z_getI dX11_rests_23 zg_X11_189 zs_61 rfl ?_
  refine z_callVv (As := [.ref 61, .int x2, .int (M3.1 61 10)]) (st := []) dX11_rests_26 zi_X11_256 rfl rfl zs_43 rfl rfl (Nat.le_of_ble_eq_true rfl) (by decide) (fun _ _ hx => hx) h4 ?_
  intro M5 h6
  refine z_aload_n dX11_rests_29 rfl ?_
  refine z_getR dX11_rests_30 zg_X11_29 zs_19 rfl ?_
  refine z_getR dX11_rests_33 zg_X11_139 zs_61 rfl ?_
  refine z_getR dX11_rests_36 zg_X11_149 zs_62 rfl ?_
  refine z_iload_n dX11_rests_39 rfl ?_
  obtain ⟨g8, h7⟩ := h6
  refine z_iald dX11_rests_40 zs_64 g8 ?_
  refine z_istore_n dX11_rests_41 (by decide) (ls' := [.ref 19, .int x1, .int x2, .int (M5.1 64 (x1).toNatClampNeg), zU, zU, zU, zU, zU, zU, zU]) rfl ?_
  refine z_aload_n dX11_rests_42 rfl ?_
  refine z_getR dX11_rests_43 zg_X11_49 zs_19 rfl ?_
  refine z_getR dX11_rests_46 zg_X11_260 zs_43 rfl ?_
  refine z_iload_n dX11_rests_49 rfl ?_
  obtain ⟨g10, h9⟩ := h7
  refine z_iald dX11_rests_50 zs_47 g10 ?_
  refine z_istore dX11_rests_51 (by decide) (ls' := [.ref 19, .int x1, .int x2, .int (M5.1 64 (x1).toNatClampNeg), .int (M5.1 47 (x1).toNatClampNeg), zU, zU, zU, zU, zU, zU]) rfl ?_
  refine z_aload_n dX11_rests_53 rfl ?_
  refine z_getR dX11_rests_54 zg_X11_49 zs_19 rfl ?_
  refine z_getR dX11_rests_57 zg_X11_356 zs_43 rfl ?_
  refine z_iload_n dX11_rests_60 rfl ?_
  obtain ⟨g12, h11⟩ := h9
  refine z_iald dX11_rests_61 zs_44 g12 ?_
  refine z_istore dX11_rests_62 (by decide) (ls' := [.ref 19, .int x1, .int x2, .int (M5.1 64 (x1).toNatClampNeg), .int (M5.1 47 (x1).toNatClampNeg), .int (M5.1 44 (x1).toNatClampNeg), zU, zU, zU, zU, zU]) rfl ?_
  refine z_iconst (v := (0 : Int32)) dX11_rests_64 rfl ?_
  refine z_istore dX11_rests_65 (by decide) (ls' := [.ref 19, .int x1, .int x2, .int (M5.1 64 (x1).toNatClampNeg), .int (M5.1 47 (x1).toNatClampNeg), .int (M5.1 44 (x1).toNatClampNeg), .int (0 : Int32), zU, zU, zU, zU]) rfl ?_
  refine z_iconst (v := (0 : Int32)) dX11_rests_67 rfl ?_
  refine z_istore dX11_rests_68 (by decide) (ls' := [.ref 19, .int x1, .int x2, .int (M5.1 64 (x1).toNatClampNeg), .int (M5.1 47 (x1).toNatClampNeg), .int (M5.1 44 (x1).toNatClampNeg), .int (0 : Int32), .int (0 : Int32), zU, zU, zU]) rfl ?_
  refine z_weak [false, false, false, true, true, true, true, true, false, false, false] (ls' := [zU, zU, zU, .int (M5.1 64 (x1).toNatClampNeg), .int (M5.1 47 (x1).toNatClampNeg), .int (M5.1 44 (x1).toNatClampNeg), .int (0 : Int32), .int (0 : Int32), zU, zU, zU]) rfl rfl ?_
  exact h11
theorem t_X11_rests_70 {E : zEv} {D : Nat} {post : Int32 → zM → Prop} {px : String → zM → Prop} {M : zM}   {y3 : Int32} {y4 : Int32} {y5 : Int32} {y6 : Int32} {y7 : Int32} (h : (((1 : Int32) < y7 → post y6 M) ∧ (¬ (1 : Int32) < y7 → w_X11_rests_79 E D post px y3 y4 y5 y6 y7 (0 : Int32) M))) : w_X11_rests_70 E D post px y3 y4 y5 y6 y7 M := by
  show Z E jX11_rests (D + 1) 2 (zQi post px) 70 2 [zU, zU, zU, .int y3, .int y4, .int y5, .int y6, .int y7, zU, zU, zU] [] M
  refine z_iload dX11_rests_70 rfl ?_
  refine z_iconst (v := (1 : Int32)) dX11_rests_72 rfl ?_
  refine z_icmp_gt (tgt := 183) dX11_rests_73 (by decide) (fun g1 => ?_) (fun g1 => ?_)
  · have h2 := h.1 g1
    refine z_iload dX11_rests_183 rfl ?_
    exact z_iret dX11_rests_185 rfl rfl (by decide) h2
  · have h3 := h.2 g1
    refine z_iconst (v := (0 : Int32)) dX11_rests_76 rfl ?_
    refine z_istore dX11_rests_77 (by decide) (ls' := [zU, zU, zU, .int y3, .int y4, .int y5, .int y6, .int y7, .int (0 : Int32), zU, zU]) rfl ?_
    exact h3
theorem t_X11_rests_79 {E : zEv} {D : Nat} {post : Int32 → zM → Prop} {px : String → zM → Prop} {M : zM}   {y3 : Int32} {y4 : Int32} {y5 : Int32} {y6 : Int32} {y7 : Int32} {y8 : Int32} (h : (((1 : Int32) < y8 → w_X11_rests_70 E D post px y3 y4 y5 y6 (y7 + (1 : Int32)) M) ∧ (¬ (1 : Int32) < y8 → zCi E jX11_witnessHas D 0 [.int y7, .int y8, .int y3, .int y4] M (fun r6 M4 => zCi E jX11_witnessHas D 0 [.int ((1 : Int32) - y7), .int y8, .int y3, .int y4] M4 (fun r9 M7 => ((r6 < r9 → w_X11_rests_115 E D post px y3 y4 y5 y6 y7 y8 (0 : Int32) M7) ∧ (¬ r6 < r9 → w_X11_rests_115 E D post px y3 y4 y5 y6 y7 y8 (1 : Int32) M7))) px) px))) : w_X11_rests_79 E D post px y3 y4 y5 y6 y7 y8 M := by
  show Z E jX11_rests (D + 1) 2 (zQi post px) 79 2 [zU, zU, zU, .int y3, .int y4, .int y5, .int y6, .int y7, .int y8, zU, zU] [] M
  refine z_iload dX11_rests_79 rfl ?_
  refine z_iconst (v := (1 : Int32)) dX11_rests_81 rfl ?_
  refine z_icmp_gt (tgt := 177) dX11_rests_82 (by decide) (fun g1 => ?_) (fun g1 => ?_)
  · have h2 := h.1 g1
    refine z_iinc dX11_rests_177 rfl (by decide) (ls' := [zU, zU, zU, .int y3, .int y4, .int y5, .int y6, .int (y7 + (1 : Int32)), .int y8, zU, zU]) rfl ?_
    refine z_goto (tgt := 70) dX11_rests_180 (by decide) ?_
    refine z_weak [false, false, false, true, true, true, true, true, false, false, false] (ls' := [zU, zU, zU, .int y3, .int y4, .int y5, .int y6, .int (y7 + (1 : Int32)), zU, zU, zU]) rfl rfl ?_
    exact h2
  · have h3 := h.2 g1
    refine z_iload dX11_rests_85 rfl ?_
    refine z_iload dX11_rests_87 rfl ?_
    refine z_iload_n dX11_rests_89 rfl ?_
    refine z_iload dX11_rests_90 rfl ?_
    refine z_callSi (As := [.int y7, .int y8, .int y3, .int y4]) (st := []) dX11_rests_92 zi_X11_370 rfl rfl (Nat.le_of_ble_eq_true rfl) (by decide) (fun _ _ hx => hx) h3 ?_
    intro r6 M4 h5
    refine z_iconst (v := (1 : Int32)) dX11_rests_95 rfl ?_
    refine z_iload dX11_rests_96 rfl ?_
    refine z_isub dX11_rests_98 ?_
    refine z_iload dX11_rests_99 rfl ?_
    refine z_iload_n dX11_rests_101 rfl ?_
    refine z_iload dX11_rests_102 rfl ?_
    refine z_callSi (As := [.int ((1 : Int32) - y7), .int y8, .int y3, .int y4]) (st := [.int r6]) dX11_rests_104 zi_X11_370 rfl rfl (Nat.le_of_ble_eq_true rfl) (by decide) (fun _ _ hx => hx) h5 ?_
    intro r9 M7 h8
    refine z_icmp_lt (tgt := 114) dX11_rests_107 (by decide) (fun g10 => ?_) (fun g10 => ?_)
    · have h11 := h8.1 g10
      refine z_iconst (v := (0 : Int32)) dX11_rests_114 rfl ?_
      exact h11
    · have h12 := h8.2 g10
      refine z_iconst (v := (1 : Int32)) dX11_rests_110 rfl ?_
      refine z_goto (tgt := 115) dX11_rests_111 (by decide) ?_
      exact h12
theorem t_X11_rests_115 {E : zEv} {D : Nat} {post : Int32 → zM → Prop} {px : String → zM → Prop} {M : zM}   {y3 : Int32} {y4 : Int32} {y5 : Int32} {y6 : Int32} {y7 : Int32} {y8 : Int32} {s0 : Int32} (h : zCi E jX11_courtHas D 0 [.int y7, .int y8, .int y5] M (fun r3 M1 => zCi E jX11_courtHas D 0 [.int y7, .int ((1 : Int32) - y8), .int y5] M1 (fun r6 M4 => ((r3 < r6 → w_X11_rests_145 E D post px y3 y4 y5 y6 y7 y8 s0 (0 : Int32) M4) ∧ (¬ r3 < r6 → w_X11_rests_145 E D post px y3 y4 y5 y6 y7 y8 s0 (1 : Int32) M4))) px) px) : w_X11_rests_115 E D post px y3 y4 y5 y6 y7 y8 s0 M := by
  show Z E jX11_rests (D + 1) 2 (zQi post px) 115 2 [zU, zU, zU, .int y3, .int y4, .int y5, .int y6, .int y7, .int y8, zU, zU] [.int s0] M
  refine z_istore dX11_rests_115 (by decide) (ls' := [zU, zU, zU, .int y3, .int y4, .int y5, .int y6, .int y7, .int y8, .int s0, zU]) rfl ?_
  refine z_iload dX11_rests_117 rfl ?_
  refine z_iload dX11_rests_119 rfl ?_
  refine z_iload dX11_rests_121 rfl ?_
  refine z_callSi (As := [.int y7, .int y8, .int y5]) (st := []) dX11_rests_123 zi_X11_373 rfl rfl (Nat.le_of_ble_eq_true rfl) (by decide) (fun _ _ hx => hx) h ?_
  intro r3 M1 h2
  refine z_iload dX11_rests_126 rfl ?_
  refine z_iconst (v := (1 : Int32)) dX11_rests_128 rfl ?_
  refine z_iload dX11_rests_129 rfl ?_
  refine z_isub dX11_rests_131 ?_
  refine z_iload dX11_rests_132 rfl ?_
  refine z_callSi (As := [.int y7, .int ((1 : Int32) - y8), .int y5]) (st := [.int r3]) dX11_rests_134 zi_X11_373 rfl rfl (Nat.le_of_ble_eq_true rfl) (by decide) (fun _ _ hx => hx) h2 ?_
  intro r6 M4 h5
  refine z_icmp_lt (tgt := 144) dX11_rests_137 (by decide) (fun g7 => ?_) (fun g7 => ?_)
  · have h8 := h5.1 g7
    refine z_iconst (v := (0 : Int32)) dX11_rests_144 rfl ?_
    exact h8
  · have h9 := h5.2 g7
    refine z_iconst (v := (1 : Int32)) dX11_rests_140 rfl ?_
    refine z_goto (tgt := 145) dX11_rests_141 (by decide) ?_
    exact h9
theorem t_X11_rests_145 {E : zEv} {D : Nat} {post : Int32 → zM → Prop} {px : String → zM → Prop} {M : zM}   {y3 : Int32} {y4 : Int32} {y5 : Int32} {y6 : Int32} {y7 : Int32} {y8 : Int32} {y9 : Int32} {s0 : Int32} (h : ((y9 = 0 → w_X11_rests_171 E D post px y3 y4 y5 y6 y7 y8 M) ∧ (¬ y9 = 0 → ((s0 = 0 → w_X11_rests_171 E D post px y3 y4 y5 y6 y7 y8 M) ∧ (¬ s0 = 0 → w_X11_rests_171 E D post px y3 y4 y5 (y6 ||| ((1 : Int32) <<< ((((2 : Int32) * y7) + y8) &&& 31))) y7 y8 M))))) : w_X11_rests_145 E D post px y3 y4 y5 y6 y7 y8 y9 s0 M := by
  show Z E jX11_rests (D + 1) 2 (zQi post px) 145 2 [zU, zU, zU, .int y3, .int y4, .int y5, .int y6, .int y7, .int y8, .int y9, zU] [.int s0] M
  refine z_istore dX11_rests_145 (by decide) (ls' := [zU, zU, zU, .int y3, .int y4, .int y5, .int y6, .int y7, .int y8, .int y9, .int s0]) rfl ?_
  refine z_iload dX11_rests_147 rfl ?_
  refine z_if_eq (tgt := 171) dX11_rests_149 (by decide) (fun g1 => ?_) (fun g1 => ?_)
  · have h2 := h.1 g1
    refine z_weak [false, false, false, true, true, true, true, true, true, false, false] (ls' := [zU, zU, zU, .int y3, .int y4, .int y5, .int y6, .int y7, .int y8, zU, zU]) rfl rfl ?_
    exact h2
  · have h3 := h.2 g1
    refine z_iload dX11_rests_152 rfl ?_
    refine z_if_eq (tgt := 171) dX11_rests_154 (by decide) (fun g4 => ?_) (fun g4 => ?_)
    · have h5 := h3.1 g4
      refine z_weak [false, false, false, true, true, true, true, true, true, false, false] (ls' := [zU, zU, zU, .int y3, .int y4, .int y5, .int y6, .int y7, .int y8, zU, zU]) rfl rfl ?_
      exact h5
    · have h6 := h3.2 g4
      refine z_iload dX11_rests_157 rfl ?_
      refine z_iconst (v := (1 : Int32)) dX11_rests_159 rfl ?_
      refine z_iconst (v := (2 : Int32)) dX11_rests_160 rfl ?_
      refine z_iload dX11_rests_161 rfl ?_
      refine z_imul dX11_rests_163 ?_
      refine z_iload dX11_rests_164 rfl ?_
      refine z_iadd dX11_rests_166 ?_
      refine z_ishl dX11_rests_167 ?_
      refine z_ior dX11_rests_168 ?_
      refine z_istore dX11_rests_169 (by decide) (ls' := [zU, zU, zU, .int y3, .int y4, .int y5, .int (y6 ||| ((1 : Int32) <<< ((((2 : Int32) * y7) + y8) &&& 31))), .int y7, .int y8, .int y9, .int s0]) rfl ?_
      refine z_weak [false, false, false, true, true, true, true, true, true, false, false] (ls' := [zU, zU, zU, .int y3, .int y4, .int y5, .int (y6 ||| ((1 : Int32) <<< ((((2 : Int32) * y7) + y8) &&& 31))), .int y7, .int y8, zU, zU]) rfl rfl ?_
      exact h6
theorem t_X11_rests_171 {E : zEv} {D : Nat} {post : Int32 → zM → Prop} {px : String → zM → Prop} {M : zM}   {y3 : Int32} {y4 : Int32} {y5 : Int32} {y6 : Int32} {y7 : Int32} {y8 : Int32} (h : w_X11_rests_79 E D post px y3 y4 y5 y6 y7 (y8 + (1 : Int32)) M) : w_X11_rests_171 E D post px y3 y4 y5 y6 y7 y8 M := by
  show Z E jX11_rests (D + 1) 2 (zQi post px) 171 2 [zU, zU, zU, .int y3, .int y4, .int y5, .int y6, .int y7, .int y8, zU, zU] [] M
  refine z_iinc dX11_rests_171 rfl (by decide) (ls' := [zU, zU, zU, .int y3, .int y4, .int y5, .int y6, .int y7, .int (y8 + (1 : Int32)), zU, zU]) rfl ?_
  refine z_goto (tgt := 79) dX11_rests_174 (by decide) ?_
  exact h
def w_X11_odds_18 (E : zEv) (D : Nat) (post : Int32 → zM → Prop) (px : String → zM → Prop)   (M : zM) : Prop := Z E jX11_odds (D + 1) 1 (zQi post px) 18 0 [zU, zU, zU, zU, zU, zU, zU, zU] [] M
def w_X11_odds_36 (E : zEv) (D : Nat) (post : Int32 → zM → Prop) (px : String → zM → Prop)  (y1 : Int32) (y2 : Int32) (y3 : Int64) (y5 : Int64) (y7 : Int32) (M : zM) : Prop := Z E jX11_odds (D + 1) 1 (zQi post px) 36 0 [.ref 19, .int y1, .int y2, .long y3, zU, .long y5, zU, .int y7] [] M
def w_X11_odds_59 (E : zEv) (D : Nat) (post : Int32 → zM → Prop) (px : String → zM → Prop)  (y1 : Int32) (y3 : Int64) (y5 : Int64) (y7 : Int32) (M : zM) : Prop := Z E jX11_odds (D + 1) 1 (zQi post px) 59 0 [.ref 19, .int y1, zU, .long y3, zU, .long y5, zU, .int y7] [] M
theorem e_X11_odds {E : zEv} {D : Nat} {post : Int32 → zM → Prop} {px : String → zM → Prop} {M : zM} {x1 : Int32} {x2 : Int32}  (h : ((x1 < 0 → w_X11_odds_18 E D post px  M) ∧ (¬ x1 < 0 → (((5 : Int32) < x1 → w_X11_odds_18 E D post px  M) ∧ (¬ (5 : Int32) < x1 → ((x2 < 0 → w_X11_odds_18 E D post px  M) ∧ (¬ x2 < 0 → ((x2 ≤ (5 : Int32) → w_X11_odds_36 E D post px x1 x2 (0 : Int64) (1 : Int64) (0 : Int32) M) ∧ (¬ x2 ≤ (5 : Int32) → w_X11_odds_18 E D post px  M))))))))) : zCi E jX11_odds (D + 1) 1 [.ref 19, .int x1, .int x2] M post px := by
  refine z_meth (by decide) (Nat.le_of_ble_eq_true rfl) ?_
  show Z E jX11_odds (D + 1) 1 (zQi post px) 0 0 [.ref 19, .int x1, .int x2, zU, zU, zU, zU, zU] [] M
  refine z_iload_n dX11_odds_0 rfl ?_
  refine z_if_lt (tgt := 18) dX11_odds_1 (by decide) (fun g1 => ?_) (fun g1 => ?_)
  · have h2 := h.1 g1
    refine z_weak [false, false, false, false, false, false, false, false] (ls' := [zU, zU, zU, zU, zU, zU, zU, zU]) rfl rfl ?_
    exact h2
  · have h3 := h.2 g1
    refine z_iload_n dX11_odds_4 rfl ?_
    refine z_iconst (v := (5 : Int32)) dX11_odds_5 rfl ?_
    refine z_icmp_gt (tgt := 18) dX11_odds_6 (by decide) (fun g4 => ?_) (fun g4 => ?_)
    · have h5 := h3.1 g4
      refine z_weak [false, false, false, false, false, false, false, false] (ls' := [zU, zU, zU, zU, zU, zU, zU, zU]) rfl rfl ?_
      exact h5
    · have h6 := h3.2 g4
      refine z_iload_n dX11_odds_9 rfl ?_
      refine z_if_lt (tgt := 18) dX11_odds_10 (by decide) (fun g7 => ?_) (fun g7 => ?_)
      · have h8 := h6.1 g7
        refine z_weak [false, false, false, false, false, false, false, false] (ls' := [zU, zU, zU, zU, zU, zU, zU, zU]) rfl rfl ?_
        exact h8
      · have h9 := h6.2 g7
        refine z_iload_n dX11_odds_13 rfl ?_
        refine z_iconst (v := (5 : Int32)) dX11_odds_14 rfl ?_
        refine z_icmp_le (tgt := 28) dX11_odds_15 (by decide) (fun g10 => ?_) (fun g10 => ?_)
        · have h11 := h9.1 g10
          refine z_lconst (v := (0 : Int64)) dX11_odds_28 rfl ?_
          refine z_lstore_n dX11_odds_29 (by decide) (ls' := [.ref 19, .int x1, .int x2, .long (0 : Int64), zU, zU, zU, zU]) rfl ?_
          refine z_lconst (v := (1 : Int64)) dX11_odds_30 rfl ?_
          refine z_lstore dX11_odds_31 (by decide) (ls' := [.ref 19, .int x1, .int x2, .long (0 : Int64), zU, .long (1 : Int64), zU, zU]) rfl ?_
          refine z_iconst (v := (0 : Int32)) dX11_odds_33 rfl ?_
          refine z_istore dX11_odds_34 (by decide) (ls' := [.ref 19, .int x1, .int x2, .long (0 : Int64), zU, .long (1 : Int64), zU, .int (0 : Int32)]) rfl ?_
          exact h11
        · have h12 := h9.2 g10
          refine z_weak [false, false, false, false, false, false, false, false] (ls' := [zU, zU, zU, zU, zU, zU, zU, zU]) rfl rfl ?_
          exact h12
theorem t_X11_odds_18 {E : zEv} {D : Nat} {post : Int32 → zM → Prop} {px : String → zM → Prop} {M : zM}    (h : px "java/lang/IllegalArgumentException" M) : w_X11_odds_18 E D post px  M := by
  show Z E jX11_odds (D + 1) 1 (zQi post px) 18 0 [zU, zU, zU, zU, zU, zU, zU, zU] [] M
  exact z_throw zt_X11_106_219 dX11_odds_18 dX11_odds_21 dX11_odds_22 dX11_odds_24 dX11_odds_27 (Nat.le_of_ble_eq_true rfl) (by decide) h
theorem t_X11_odds_36 {E : zEv} {D : Nat} {post : Int32 → zM → Prop} {px : String → zM → Prop} {M : zM}   {y1 : Int32} {y2 : Int32} {y3 : Int64} {y5 : Int64} {y7 : Int32} (h : ((y1 ≤ y7 → w_X11_odds_59 E D post px y1 y3 y5 y2 M) ∧ (¬ y1 ≤ y7 → w_X11_odds_36 E D post px y1 y2 y3 (y5 * (100 : Int64)) (y7 + (1 : Int32)) M))) : w_X11_odds_36 E D post px y1 y2 y3 y5 y7 M := by
  show Z E jX11_odds (D + 1) 1 (zQi post px) 36 0 [.ref 19, .int y1, .int y2, .long y3, zU, .long y5, zU, .int y7] [] M
  refine z_iload dX11_odds_36 rfl ?_
  refine z_iload_n dX11_odds_38 rfl ?_
  refine z_icmp_ge (tgt := 56) dX11_odds_39 (by decide) (fun g1 => ?_) (fun g1 => ?_)
  · have h2 := h.1 g1
    refine z_iload_n dX11_odds_56 rfl ?_
    refine z_istore dX11_odds_57 (by decide) (ls' := [.ref 19, .int y1, .int y2, .long y3, zU, .long y5, zU, .int y2]) rfl ?_
    refine z_weak [true, true, false, true, false, true, false, true] (ls' := [.ref 19, .int y1, zU, .long y3, zU, .long y5, zU, .int y2]) rfl rfl ?_
    exact h2
  · have h3 := h.2 g1
    refine z_lload dX11_odds_42 rfl ?_
    refine z_ldc2 (v := (100 : Int64)) dX11_odds_44 zw_1399 ?_
    refine z_lmul dX11_odds_47 ?_
    refine z_lstore dX11_odds_48 (by decide) (ls' := [.ref 19, .int y1, .int y2, .long y3, zU, .long (y5 * (100 : Int64)), zU, .int y7]) rfl ?_
    refine z_iinc dX11_odds_50 rfl (by decide) (ls' := [.ref 19, .int y1, .int y2, .long y3, zU, .long (y5 * (100 : Int64)), zU, .int (y7 + (1 : Int32))]) rfl ?_
    refine z_goto (tgt := 36) dX11_odds_53 (by decide) ?_
    exact h3
theorem t_X11_odds_59 {E : zEv} {D : Nat} {post : Int32 → zM → Prop} {px : String → zM → Prop} {M : zM}   {y1 : Int32} {y3 : Int64} {y5 : Int64} {y7 : Int32} (h : ((y1 < y7 → ¬ y5 = 0 ∧ post ((((y3 * (10000 : Int64)) / y5)).toInt32) M) ∧ (¬ y1 < y7 → zCl E jX11_waysOf D 0 [.ref 19, .int y1, .int y7] M (fun r8 M6 => w_X11_odds_59 E D post px y1 (y3 + r8) y5 (y7 + (1 : Int32)) M6) px))) : w_X11_odds_59 E D post px y1 y3 y5 y7 M := by
  show Z E jX11_odds (D + 1) 1 (zQi post px) 59 0 [.ref 19, .int y1, zU, .long y3, zU, .long y5, zU, .int y7] [] M
  refine z_iload dX11_odds_59 rfl ?_
  refine z_iload_n dX11_odds_61 rfl ?_
  refine z_icmp_gt (tgt := 81) dX11_odds_62 (by decide) (fun g1 => ?_) (fun g1 => ?_)
  · have h2 := h.1 g1
    refine z_lload_n dX11_odds_81 rfl ?_
    refine z_ldc2 (v := (10000 : Int64)) dX11_odds_82 zw_1404 ?_
    refine z_lmul dX11_odds_85 ?_
    refine z_lload dX11_odds_86 rfl ?_
    obtain ⟨g5, h4⟩ := h2
    refine z_ldiv dX11_odds_88 g5 ?_
    refine z_l2i (v := ((((y3 * (10000 : Int64)) / y5)).toInt32)) dX11_odds_89 rfl ?_
    exact z_iret dX11_odds_90 rfl rfl (by decide) h4
  · have h3 := h.2 g1
    refine z_lload_n dX11_odds_65 rfl ?_
    refine z_aload_n dX11_odds_66 rfl ?_
    refine z_iload_n dX11_odds_67 rfl ?_
    refine z_iload dX11_odds_68 rfl ?_
    refine z_callVl (As := [.int y1, .int y7]) (st := [.long y3]) dX11_odds_70 zi_X11_378 rfl rfl zs_19 rfl rfl (Nat.le_of_ble_eq_true rfl) (by decide) (fun _ _ hx => hx) h3 ?_
    intro r8 M6 h7
    refine z_ladd dX11_odds_73 ?_
    refine z_lstore_n dX11_odds_74 (by decide) (ls' := [.ref 19, .int y1, zU, .long (y3 + r8), zU, .long y5, zU, .int y7]) rfl ?_
    refine z_iinc dX11_odds_75 rfl (by decide) (ls' := [.ref 19, .int y1, zU, .long (y3 + r8), zU, .long y5, zU, .int (y7 + (1 : Int32))]) rfl ?_
    refine z_goto (tgt := 59) dX11_odds_78 (by decide) ?_
    exact h7
def w_X11_weightiest_4 (E : zEv) (D : Nat) (post : Int32 → zM → Prop) (px : String → zM → Prop)  (y1 : Int32) (y2 : Int32) (M : zM) : Prop := Z E jX11_weightiest D 0 (zQi post px) 4 0 [.ref 19, .int y1, .int y2] [] M
def w_X11_weightiest_41 (E : zEv) (D : Nat) (post : Int32 → zM → Prop) (px : String → zM → Prop)  (y2 : Int32) (M : zM) : Prop := Z E jX11_weightiest D 0 (zQi post px) 41 0 [.ref 19, zU, .int y2] [] M
def w_X11_weightiest_43 (E : zEv) (D : Nat) (post : Int32 → zM → Prop) (px : String → zM → Prop)  (y1 : Int32) (y2 : Int32) (M : zM) : Prop := Z E jX11_weightiest D 0 (zQi post px) 43 0 [.ref 19, .int y1, .int y2] [] M
theorem e_X11_weightiest {E : zEv} {D : Nat} {post : Int32 → zM → Prop} {px : String → zM → Prop} {M : zM}   (h : w_X11_weightiest_4 E D post px (-1 : Int32) (0 : Int32) M) : zCi E jX11_weightiest D 0 [.ref 19] M post px := by
  refine z_meth (by decide) (Nat.le_of_ble_eq_true rfl) ?_
  show Z E jX11_weightiest D 0 (zQi post px) 0 0 [.ref 19, zU, zU] [] M
  refine z_iconst (v := (-1 : Int32)) dX11_weightiest_0 rfl ?_
  refine z_istore_n dX11_weightiest_1 (by decide) (ls' := [.ref 19, .int (-1 : Int32), zU]) rfl ?_
  refine z_iconst (v := (0 : Int32)) dX11_weightiest_2 rfl ?_
  refine z_istore_n dX11_weightiest_3 (by decide) (ls' := [.ref 19, .int (-1 : Int32), .int (0 : Int32)]) rfl ?_
  exact h
theorem t_X11_weightiest_4 {E : zEv} {D : Nat} {post : Int32 → zM → Prop} {px : String → zM → Prop} {M : zM}   {y1 : Int32} {y2 : Int32} (h : (((M.1 61 6) ≤ y2 → post y1 M) ∧ (¬ (M.1 61 6) ≤ y2 → ((y1 = (-1 : Int32) → w_X11_weightiest_41 E D post px y2 M) ∧ (¬ y1 = (-1 : Int32) → vp_in y2 6 ∧ vp_in y1 6 ∧ (((M.1 71 (y2).toNatClampNeg) ≤ (M.1 71 (y1).toNatClampNeg) → w_X11_weightiest_43 E D post px y1 y2 M) ∧ (¬ (M.1 71 (y2).toNatClampNeg) ≤ (M.1 71 (y1).toNatClampNeg) → w_X11_weightiest_41 E D post px y2 M))))))) : w_X11_weightiest_4 E D post px y1 y2 M := by
  show Z E jX11_weightiest D 0 (zQi post px) 4 0 [.ref 19, .int y1, .int y2] [] M
  refine z_iload_n dX11_weightiest_4 rfl ?_
  refine z_aload_n dX11_weightiest_5 rfl ?_
  refine z_getR dX11_weightiest_6 zg_X11_29 zs_19 rfl ?_
  refine z_getI dX11_weightiest_9 zg_X11_384 zs_61 rfl ?_
  refine z_icmp_ge (tgt := 49) dX11_weightiest_12 (by decide) (fun g1 => ?_) (fun g1 => ?_)
  · have h2 := h.1 g1
    refine z_iload_n dX11_weightiest_49 rfl ?_
    exact z_iret dX11_weightiest_50 rfl rfl (by decide) h2
  · have h3 := h.2 g1
    refine z_iload_n dX11_weightiest_15 rfl ?_
    refine z_iconst (v := (-1 : Int32)) dX11_weightiest_16 rfl ?_
    refine z_icmp_eq (tgt := 41) dX11_weightiest_17 (by decide) (fun g4 => ?_) (fun g4 => ?_)
    · have h5 := h3.1 g4
      refine z_weak [true, false, true] (ls' := [.ref 19, zU, .int y2]) rfl rfl ?_
      exact h5
    · have h6 := h3.2 g4
      refine z_aload_n dX11_weightiest_20 rfl ?_
      refine z_getR dX11_weightiest_21 zg_X11_29 zs_19 rfl ?_
      refine z_getR dX11_weightiest_24 zg_X11_183 zs_61 rfl ?_
      refine z_iload_n dX11_weightiest_27 rfl ?_
      obtain ⟨g8, h7⟩ := h6
      refine z_iald dX11_weightiest_28 zs_71 g8 ?_
      refine z_aload_n dX11_weightiest_29 rfl ?_
      refine z_getR dX11_weightiest_30 zg_X11_29 zs_19 rfl ?_
      refine z_getR dX11_weightiest_33 zg_X11_183 zs_61 rfl ?_
      refine z_iload_n dX11_weightiest_36 rfl ?_
      obtain ⟨g10, h9⟩ := h7
      refine z_iald dX11_weightiest_37 zs_71 g10 ?_
      refine z_icmp_le (tgt := 43) dX11_weightiest_38 (by decide) (fun g11 => ?_) (fun g11 => ?_)
      · have h12 := h9.1 g11
        exact h12
      · have h13 := h9.2 g11
        refine z_weak [true, false, true] (ls' := [.ref 19, zU, .int y2]) rfl rfl ?_
        exact h13
theorem t_X11_weightiest_41 {E : zEv} {D : Nat} {post : Int32 → zM → Prop} {px : String → zM → Prop} {M : zM}   {y2 : Int32} (h : w_X11_weightiest_43 E D post px y2 y2 M) : w_X11_weightiest_41 E D post px y2 M := by
  show Z E jX11_weightiest D 0 (zQi post px) 41 0 [.ref 19, zU, .int y2] [] M
  refine z_iload_n dX11_weightiest_41 rfl ?_
  refine z_istore_n dX11_weightiest_42 (by decide) (ls' := [.ref 19, .int y2, .int y2]) rfl ?_
  exact h
theorem t_X11_weightiest_43 {E : zEv} {D : Nat} {post : Int32 → zM → Prop} {px : String → zM → Prop} {M : zM}   {y1 : Int32} {y2 : Int32} (h : w_X11_weightiest_4 E D post px y1 (y2 + (1 : Int32)) M) : w_X11_weightiest_43 E D post px y1 y2 M := by
  show Z E jX11_weightiest D 0 (zQi post px) 43 0 [.ref 19, .int y1, .int y2] [] M
  refine z_iinc dX11_weightiest_43 rfl (by decide) (ls' := [.ref 19, .int y1, .int (y2 + (1 : Int32))]) rfl ?_
  refine z_goto (tgt := 4) dX11_weightiest_46 (by decide) ?_
  exact h
def w_X11_twins_12 (E : zEv) (D : Nat) (post : Int32 → zM → Prop) (px : String → zM → Prop)  (y2 : Int32) (y3 : Int32) (M : zM) : Prop := Z E jX11_twins D 0 (zQi post px) 12 0 [zU, .ref 62, .int y2, .int y3, zU] [] M
def w_X11_twins_25 (E : zEv) (D : Nat) (post : Int32 → zM → Prop) (px : String → zM → Prop)  (y2 : Int32) (y3 : Int32) (y4 : Int32) (M : zM) : Prop := Z E jX11_twins D 0 (zQi post px) 25 0 [zU, .ref 62, .int y2, .int y3, .int y4] [] M
def w_X11_twins_69 (E : zEv) (D : Nat) (post : Int32 → zM → Prop) (px : String → zM → Prop)  (y2 : Int32) (y3 : Int32) (y4 : Int32) (M : zM) : Prop := Z E jX11_twins D 0 (zQi post px) 69 0 [zU, .ref 62, .int y2, .int y3, .int y4] [] M
theorem e_X11_twins {E : zEv} {D : Nat} {post : Int32 → zM → Prop} {px : String → zM → Prop} {M : zM}   (h : w_X11_twins_12 E D post px (0 : Int32) (0 : Int32) M) : zCi E jX11_twins D 0 [.ref 19] M post px := by
  refine z_meth (by decide) (Nat.le_of_ble_eq_true rfl) ?_
  show Z E jX11_twins D 0 (zQi post px) 0 0 [.ref 19, zU, zU, zU, zU] [] M
  refine z_aload_n dX11_twins_0 rfl ?_
  refine z_getR dX11_twins_1 zg_X11_29 zs_19 rfl ?_
  refine z_getR dX11_twins_4 zg_X11_139 zs_61 rfl ?_
  refine z_astore_n dX11_twins_7 (by decide) (ls' := [.ref 19, .ref 62, zU, zU, zU]) rfl ?_
  refine z_iconst (v := (0 : Int32)) dX11_twins_8 rfl ?_
  refine z_istore_n dX11_twins_9 (by decide) (ls' := [.ref 19, .ref 62, .int (0 : Int32), zU, zU]) rfl ?_
  refine z_iconst (v := (0 : Int32)) dX11_twins_10 rfl ?_
  refine z_istore_n dX11_twins_11 (by decide) (ls' := [.ref 19, .ref 62, .int (0 : Int32), .int (0 : Int32), zU]) rfl ?_
  refine z_weak [false, true, true, true, false] (ls' := [zU, .ref 62, .int (0 : Int32), .int (0 : Int32), zU]) rfl rfl ?_
  exact h
theorem t_X11_twins_12 {E : zEv} {D : Nat} {post : Int32 → zM → Prop} {px : String → zM → Prop} {M : zM}   {y2 : Int32} {y3 : Int32} (h : (((M.1 62 6) ≤ y3 → post y2 M) ∧ (¬ (M.1 62 6) ≤ y3 → w_X11_twins_25 E D post px y2 y3 (y3 + (1 : Int32)) M))) : w_X11_twins_12 E D post px y2 y3 M := by
  show Z E jX11_twins D 0 (zQi post px) 12 0 [zU, .ref 62, .int y2, .int y3, zU] [] M
  refine z_iload_n dX11_twins_12 rfl ?_
  refine z_aload_n dX11_twins_13 rfl ?_
  refine z_getI dX11_twins_14 zg_X11_263 zs_62 rfl ?_
  refine z_icmp_ge (tgt := 81) dX11_twins_17 (by decide) (fun g1 => ?_) (fun g1 => ?_)
  · have h2 := h.1 g1
    refine z_iload_n dX11_twins_81 rfl ?_
    exact z_iret dX11_twins_82 rfl rfl (by decide) h2
  · have h3 := h.2 g1
    refine z_iload_n dX11_twins_20 rfl ?_
    refine z_iconst (v := (1 : Int32)) dX11_twins_21 rfl ?_
    refine z_iadd dX11_twins_22 ?_
    refine z_istore dX11_twins_23 (by decide) (ls' := [zU, .ref 62, .int y2, .int y3, .int (y3 + (1 : Int32))]) rfl ?_
    exact h3
theorem t_X11_twins_25 {E : zEv} {D : Nat} {post : Int32 → zM → Prop} {px : String → zM → Prop} {M : zM}   {y2 : Int32} {y3 : Int32} {y4 : Int32} (h : (((M.1 62 6) ≤ y4 → w_X11_twins_12 E D post px y2 (y3 + (1 : Int32)) M) ∧ (¬ (M.1 62 6) ≤ y4 → vp_in y3 5 ∧ vp_in y4 5 ∧ ((¬ (M.1 63 (y3).toNatClampNeg) = (M.1 63 (y4).toNatClampNeg) → w_X11_twins_69 E D post px y2 y3 y4 M) ∧ ((M.1 63 (y3).toNatClampNeg) = (M.1 63 (y4).toNatClampNeg) → vp_in y3 5 ∧ vp_in y4 5 ∧ ((¬ (M.1 64 (y3).toNatClampNeg) = (M.1 64 (y4).toNatClampNeg) → w_X11_twins_69 E D post px y2 y3 y4 M) ∧ ((M.1 64 (y3).toNatClampNeg) = (M.1 64 (y4).toNatClampNeg) → w_X11_twins_69 E D post px (y2 + (1 : Int32)) y3 y4 M))))))) : w_X11_twins_25 E D post px y2 y3 y4 M := by
  show Z E jX11_twins D 0 (zQi post px) 25 0 [zU, .ref 62, .int y2, .int y3, .int y4] [] M
  refine z_iload dX11_twins_25 rfl ?_
  refine z_aload_n dX11_twins_27 rfl ?_
  refine z_getI dX11_twins_28 zg_X11_263 zs_62 rfl ?_
  refine z_icmp_ge (tgt := 75) dX11_twins_31 (by decide) (fun g1 => ?_) (fun g1 => ?_)
  · have h2 := h.1 g1
    refine z_iinc dX11_twins_75 rfl (by decide) (ls' := [zU, .ref 62, .int y2, .int (y3 + (1 : Int32)), .int y4]) rfl ?_
    refine z_goto (tgt := 12) dX11_twins_78 (by decide) ?_
    refine z_weak [false, true, true, true, false] (ls' := [zU, .ref 62, .int y2, .int (y3 + (1 : Int32)), zU]) rfl rfl ?_
    exact h2
  · have h3 := h.2 g1
    refine z_aload_n dX11_twins_34 rfl ?_
    refine z_getR dX11_twins_35 zg_X11_143 zs_62 rfl ?_
    refine z_iload_n dX11_twins_38 rfl ?_
    obtain ⟨g5, h4⟩ := h3
    refine z_iald dX11_twins_39 zs_63 g5 ?_
    refine z_aload_n dX11_twins_40 rfl ?_
    refine z_getR dX11_twins_41 zg_X11_143 zs_62 rfl ?_
    refine z_iload dX11_twins_44 rfl ?_
    obtain ⟨g7, h6⟩ := h4
    refine z_iald dX11_twins_46 zs_63 g7 ?_
    refine z_icmp_ne (tgt := 69) dX11_twins_47 (by decide) (fun g8 => ?_) (fun g8 => ?_)
    · have h9 := h6.1 g8
      exact h9
    · have h10 := h6.2 g8
      refine z_aload_n dX11_twins_50 rfl ?_
      refine z_getR dX11_twins_51 zg_X11_149 zs_62 rfl ?_
      refine z_iload_n dX11_twins_54 rfl ?_
      obtain ⟨g12, h11⟩ := h10
      refine z_iald dX11_twins_55 zs_64 g12 ?_
      refine z_aload_n dX11_twins_56 rfl ?_
      refine z_getR dX11_twins_57 zg_X11_149 zs_62 rfl ?_
      refine z_iload dX11_twins_60 rfl ?_
      obtain ⟨g14, h13⟩ := h11
      refine z_iald dX11_twins_62 zs_64 g14 ?_
      refine z_icmp_ne (tgt := 69) dX11_twins_63 (by decide) (fun g15 => ?_) (fun g15 => ?_)
      · have h16 := h13.1 g15
        exact h16
      · have h17 := h13.2 g15
        refine z_iinc dX11_twins_66 rfl (by decide) (ls' := [zU, .ref 62, .int (y2 + (1 : Int32)), .int y3, .int y4]) rfl ?_
        exact h17
theorem t_X11_twins_69 {E : zEv} {D : Nat} {post : Int32 → zM → Prop} {px : String → zM → Prop} {M : zM}   {y2 : Int32} {y3 : Int32} {y4 : Int32} (h : w_X11_twins_25 E D post px y2 y3 (y4 + (1 : Int32)) M) : w_X11_twins_69 E D post px y2 y3 y4 M := by
  show Z E jX11_twins D 0 (zQi post px) 69 0 [zU, .ref 62, .int y2, .int y3, .int y4] [] M
  refine z_iinc dX11_twins_69 rfl (by decide) (ls' := [zU, .ref 62, .int y2, .int y3, .int (y4 + (1 : Int32))]) rfl ?_
  refine z_goto (tgt := 25) dX11_twins_72 (by decide) ?_
  exact h
def w_X11_blind_4 (E : zEv) (D : Nat) (post : Int32 → zM → Prop) (px : String → zM → Prop)  (y1 : Int32) (y2 : Int32) (M : zM) : Prop := Z E jX11_blind (D + 1) 0 (zQi post px) 4 0 [.ref 19, .int y1, .int y2] [] M
theorem e_X11_blind {E : zEv} {D : Nat} {post : Int32 → zM → Prop} {px : String → zM → Prop} {M : zM}   (h : w_X11_blind_4 E D post px (0 : Int32) (0 : Int32) M) : zCi E jX11_blind (D + 1) 0 [.ref 19] M post px := by
  refine z_meth (by decide) (Nat.le_of_ble_eq_true rfl) ?_
  show Z E jX11_blind (D + 1) 0 (zQi post px) 0 0 [.ref 19, zU, zU] [] M
  refine z_iconst (v := (0 : Int32)) dX11_blind_0 rfl ?_
  refine z_istore_n dX11_blind_1 (by decide) (ls' := [.ref 19, .int (0 : Int32), zU]) rfl ?_
  refine z_iconst (v := (0 : Int32)) dX11_blind_2 rfl ?_
  refine z_istore_n dX11_blind_3 (by decide) (ls' := [.ref 19, .int (0 : Int32), .int (0 : Int32)]) rfl ?_
  exact h
theorem t_X11_blind_4 {E : zEv} {D : Nat} {post : Int32 → zM → Prop} {px : String → zM → Prop} {M : zM}   {y1 : Int32} {y2 : Int32} (h : (((M.1 61 7) ≤ y2 → post ((((1 : Int32) <<< ((M.1 61 8) &&& 31)) - (1 : Int32)) &&& (y1 ^^^ (-1 : Int32))) M) ∧ (¬ (M.1 61 7) ≤ y2 → zCv E jX1_raise D 0 [.ref 43, .ref 61, .int y2, .int (M.1 61 10)] M (fun M4 => zCi E jX1_seeingWomen D 0 [.ref 43, .ref 61] M4 (fun r8 M6 => w_X11_blind_4 E D post px (y1 ||| r8) (y2 + (1 : Int32)) M6) px) px))) : w_X11_blind_4 E D post px y1 y2 M := by
  show Z E jX11_blind (D + 1) 0 (zQi post px) 4 0 [.ref 19, .int y1, .int y2] [] M
  refine z_iload_n dX11_blind_4 rfl ?_
  refine z_aload_n dX11_blind_5 rfl ?_
  refine z_getR dX11_blind_6 zg_X11_29 zs_19 rfl ?_
  refine z_getI dX11_blind_9 zg_X11_296 zs_61 rfl ?_
  refine z_icmp_ge (tgt := 54) dX11_blind_12 (by decide) (fun g1 => ?_) (fun g1 => ?_)
  · have h2 := h.1 g1
    refine z_iconst (v := (1 : Int32)) dX11_blind_54 rfl ?_
    refine z_aload_n dX11_blind_55 rfl ?_
    refine z_getR dX11_blind_56 zg_X11_29 zs_19 rfl ?_
    refine z_getI dX11_blind_59 zg_X11_327 zs_61 rfl ?_
    refine z_ishl dX11_blind_62 ?_
    refine z_iconst (v := (1 : Int32)) dX11_blind_63 rfl ?_
    refine z_isub dX11_blind_64 ?_
    refine z_iload_n dX11_blind_65 rfl ?_
    refine z_iconst (v := (-1 : Int32)) dX11_blind_66 rfl ?_
    refine z_ixor dX11_blind_67 ?_
    refine z_iand dX11_blind_68 ?_
    exact z_iret dX11_blind_69 rfl rfl (by decide) h2
  · have h3 := h.2 g1
    refine z_aload_n dX11_blind_15 rfl ?_
    refine z_getR dX11_blind_16 zg_X11_49 zs_19 rfl ?_
    refine z_aload_n dX11_blind_19 rfl ?_
    refine z_getR dX11_blind_20 zg_X11_29 zs_19 rfl ?_
    refine z_iload_n dX11_blind_23 rfl ?_
    refine z_aload_n dX11_blind_24 rfl ?_
    refine z_getR dX11_blind_25 zg_X11_29 zs_19 rfl ?_
    refine z_getI dX11_blind_28 zg_X11_189 zs_61 rfl ?_
    refine z_callVv (As := [.ref 61, .int y2, .int (M.1 61 10)]) (st := []) dX11_blind_31 zi_X11_256 rfl rfl zs_43 rfl rfl (Nat.le_of_ble_eq_true rfl) (by decide) (fun _ _ hx => hx) h3 ?_
    intro M4 h5
    refine z_iload_n dX11_blind_34 rfl ?_
    refine z_aload_n dX11_blind_35 rfl ?_
    refine z_getR dX11_blind_36 zg_X11_49 zs_19 rfl ?_
    refine z_aload_n dX11_blind_39 rfl ?_
    refine z_getR dX11_blind_40 zg_X11_29 zs_19 rfl ?_
    refine z_callVi (As := [.ref 61]) (st := [.int y1]) dX11_blind_43 zi_X11_387 rfl rfl zs_43 rfl rfl (Nat.le_of_ble_eq_true rfl) (by decide) (fun _ _ hx => hx) h5 ?_
    intro r8 M6 h7
    refine z_ior dX11_blind_46 ?_
    refine z_istore_n dX11_blind_47 (by decide) (ls' := [.ref 19, .int (y1 ||| r8), .int y2]) rfl ?_
    refine z_iinc dX11_blind_48 rfl (by decide) (ls' := [.ref 19, .int (y1 ||| r8), .int (y2 + (1 : Int32))]) rfl ?_
    refine z_goto (tgt := 4) dX11_blind_51 (by decide) ?_
    exact h7
theorem e_X11_so {E : zEv} {D : Nat} {post : Int32 → zM → Prop} {px : String → zM → Prop} {M : zM}   (h : post (M.1 61 10) M) : zCi E jX11_so D 0 [.ref 19] M post px := by
  refine z_meth (by decide) (Nat.le_of_ble_eq_true rfl) ?_
  show Z E jX11_so D 0 (zQi post px) 0 0 [.ref 19] [] M
  refine z_aload_n dX11_so_0 rfl ?_
  refine z_getR dX11_so_1 zg_X11_29 zs_19 rfl ?_
  refine z_getI dX11_so_4 zg_X11_189 zs_61 rfl ?_
  exact z_iret dX11_so_7 rfl rfl (by decide) h
def w_X11_ahead_23 (E : zEv) (D : Nat) (post : Int32 → zM → Prop) (px : String → zM → Prop)  (y1 : Int32) (y2 : Int32) (y3 : Int32) (M : zM) : Prop := Z E jX11_ahead (D + 1) 2 (zQi post px) 23 2 [.ref 19, .int y1, .int y2, .int y3] [] M
theorem e_X11_ahead {E : zEv} {D : Nat} {post : Int32 → zM → Prop} {px : String → zM → Prop} {M : zM} {x1 : Int32} {x2 : Int32}  (h : zCv E jX11_needWitness D 1 [.ref 19, .int x1] M (fun M1 => zCv E jX11_needAhead D 1 [.ref 19, .int x2] M1 (fun M3 => zCv E jX3_copy D 0 [.ref 75, .ref 61] M3 (fun M5 => w_X11_ahead_23 E D post px x1 x2 (0 : Int32) M5) px) px) px) : zCi E jX11_ahead (D + 1) 2 [.ref 19, .int x1, .int x2] M post px := by
  refine z_meth (by decide) (Nat.le_of_ble_eq_true rfl) ?_
  show Z E jX11_ahead (D + 1) 2 (zQi post px) 0 0 [.ref 19, .int x1, .int x2, zU] [] M
  refine z_aload_n dX11_ahead_0 rfl ?_
  refine z_iload_n dX11_ahead_1 rfl ?_
  refine z_callVv (As := [.int x1]) (st := []) dX11_ahead_2 zi_X11_136 rfl rfl zs_19 rfl rfl (Nat.le_of_ble_eq_true rfl) (by decide) (fun _ _ hx => hx) h ?_
  intro M1 h2
  refine z_aload_n dX11_ahead_5 rfl ?_
  refine z_iload_n dX11_ahead_6 rfl ?_
  refine z_callVv (As := [.int x2]) (st := []) dX11_ahead_7 zi_X11_390 rfl rfl zs_19 rfl rfl (Nat.le_of_ble_eq_true rfl) (by decide) (fun _ _ hx => hx) h2 ?_
  intro M3 h4
  refine z_aload_n dX11_ahead_10 rfl ?_
  refine z_getR dX11_ahead_11 zg_X11_33 zs_19 rfl ?_
  refine z_aload_n dX11_ahead_14 rfl ?_
  refine z_getR dX11_ahead_15 zg_X11_29 zs_19 rfl ?_
  refine z_callVv (As := [.ref 61]) (st := []) dX11_ahead_18 zi_X11_89 rfl rfl zs_75 rfl rfl (Nat.le_of_ble_eq_true rfl) (by decide) (fun _ _ hx => hx) h4 ?_
  intro M5 h6
  refine z_iconst (v := (0 : Int32)) dX11_ahead_21 rfl ?_
  refine z_istore_n dX11_ahead_22 (by decide) (ls' := [.ref 19, .int x1, .int x2, .int (0 : Int32)]) rfl ?_
  exact h6
theorem t_X11_ahead_23 {E : zEv} {D : Nat} {post : Int32 → zM → Prop} {px : String → zM → Prop} {M : zM}   {y1 : Int32} {y2 : Int32} {y3 : Int32} (h : ((y2 ≤ y3 → vp_in y1 5 ∧ post (M.1 80 (y1).toNatClampNeg) M) ∧ (¬ y2 ≤ y3 → zCv E jX1_fall D 0 [.ref 43, .ref 75] M (fun M6 => w_X11_ahead_23 E D post px y1 y2 (y3 + (1 : Int32)) M6) px))) : w_X11_ahead_23 E D post px y1 y2 y3 M := by
  show Z E jX11_ahead (D + 1) 2 (zQi post px) 23 2 [.ref 19, .int y1, .int y2, .int y3] [] M
  refine z_iload_n dX11_ahead_23 rfl ?_
  refine z_iload_n dX11_ahead_24 rfl ?_
  refine z_icmp_ge (tgt := 45) dX11_ahead_25 (by decide) (fun g1 => ?_) (fun g1 => ?_)
  · have h2 := h.1 g1
    refine z_aload_n dX11_ahead_45 rfl ?_
    refine z_getR dX11_ahead_46 zg_X11_33 zs_19 rfl ?_
    refine z_getR dX11_ahead_49 zg_X11_139 zs_75 rfl ?_
    refine z_getR dX11_ahead_52 zg_X11_155 zs_76 rfl ?_
    refine z_iload_n dX11_ahead_55 rfl ?_
    obtain ⟨g5, h4⟩ := h2
    refine z_iald dX11_ahead_56 zs_80 g5 ?_
    exact z_iret dX11_ahead_57 rfl rfl (by decide) h4
  · have h3 := h.2 g1
    refine z_aload_n dX11_ahead_28 rfl ?_
    refine z_getR dX11_ahead_29 zg_X11_49 zs_19 rfl ?_
    refine z_aload_n dX11_ahead_32 rfl ?_
    refine z_getR dX11_ahead_33 zg_X11_33 zs_19 rfl ?_
    refine z_callVv (As := [.ref 75]) (st := []) dX11_ahead_36 zi_X11_280 rfl rfl zs_43 rfl rfl (Nat.le_of_ble_eq_true rfl) (by decide) (fun _ _ hx => hx) h3 ?_
    intro M6 h7
    refine z_iinc dX11_ahead_39 rfl (by decide) (ls' := [.ref 19, .int y1, .int y2, .int (y3 + (1 : Int32))]) rfl ?_
    refine z_goto (tgt := 23) dX11_ahead_42 (by decide) ?_
    exact h7
def w_X11_trial_56 (E : zEv) (D : Nat) (post : Int32 → zM → Prop) (px : String → zM → Prop)  (s0 : Int32) (M : zM) : Prop := Z E jX11_trial (D + 1) 1 (zQi post px) 56 1 [zU, zU, zU] [.int s0] M
theorem e_X11_trial {E : zEv} {D : Nat} {post : Int32 → zM → Prop} {px : String → zM → Prop} {M : zM} {x1 : Int32} {x2 : Int32}  (h : zCv E jX11_needAhead D 1 [.ref 19, .int x1] M (fun M1 => zCv E jX3_copy D 0 [.ref 75, .ref 61] M1 (fun M3 => zCi E jX1_live D 0 [.ref 43, .ref 75, .int x1] M3 (fun r7 M5 => ((x2 = 0 → zCi E jX8_redOnes D 0 [.ref 76] M5 (fun r13 M11 => w_X11_trial_56 E D post px r13 M11) px) ∧ (¬ x2 = 0 → zCi E jX8_allShades D 0 [.ref 76] M5 (fun r16 M14 => w_X11_trial_56 E D post px r16 M14) px))) px) px) px) : zCi E jX11_trial (D + 1) 1 [.ref 19, .int x1, .int x2] M post px := by
  refine z_meth (by decide) (Nat.le_of_ble_eq_true rfl) ?_
  show Z E jX11_trial (D + 1) 1 (zQi post px) 0 0 [.ref 19, .int x1, .int x2] [] M
  refine z_aload_n dX11_trial_0 rfl ?_
  refine z_iload_n dX11_trial_1 rfl ?_
  refine z_callVv (As := [.int x1]) (st := []) dX11_trial_2 zi_X11_390 rfl rfl zs_19 rfl rfl (Nat.le_of_ble_eq_true rfl) (by decide) (fun _ _ hx => hx) h ?_
  intro M1 h2
  refine z_aload_n dX11_trial_5 rfl ?_
  refine z_getR dX11_trial_6 zg_X11_33 zs_19 rfl ?_
  refine z_aload_n dX11_trial_9 rfl ?_
  refine z_getR dX11_trial_10 zg_X11_29 zs_19 rfl ?_
  refine z_callVv (As := [.ref 61]) (st := []) dX11_trial_13 zi_X11_89 rfl rfl zs_75 rfl rfl (Nat.le_of_ble_eq_true rfl) (by decide) (fun _ _ hx => hx) h2 ?_
  intro M3 h4
  refine z_aload_n dX11_trial_16 rfl ?_
  refine z_getR dX11_trial_17 zg_X11_49 zs_19 rfl ?_
  refine z_aload_n dX11_trial_20 rfl ?_
  refine z_getR dX11_trial_21 zg_X11_33 zs_19 rfl ?_
  refine z_iload_n dX11_trial_24 rfl ?_
  refine z_callVi (As := [.ref 75, .int x1]) (st := []) dX11_trial_25 zi_X11_224 rfl rfl zs_43 rfl rfl (Nat.le_of_ble_eq_true rfl) (by decide) (fun _ _ hx => hx) h4 ?_
  intro r7 M5 h6
  refine z_pop dX11_trial_28 rfl ?_
  refine z_iload_n dX11_trial_29 rfl ?_
  refine z_if_eq (tgt := 46) dX11_trial_30 (by decide) (fun g8 => ?_) (fun g8 => ?_)
  · have h9 := h6.1 g8
    refine z_aload_n dX11_trial_46 rfl ?_
    refine z_getR dX11_trial_47 zg_X11_33 zs_19 rfl ?_
    refine z_getR dX11_trial_50 zg_X11_139 zs_75 rfl ?_
    refine z_callVi (As := []) (st := []) dX11_trial_53 zi_X11_393 rfl rfl zs_76 rfl rfl (Nat.le_of_ble_eq_true rfl) (by decide) (fun _ _ hx => hx) h9 ?_
    intro r13 M11 h12
    refine z_weak [false, false, false] (ls' := [zU, zU, zU]) rfl rfl ?_
    exact h12
  · have h10 := h6.2 g8
    refine z_aload_n dX11_trial_33 rfl ?_
    refine z_getR dX11_trial_34 zg_X11_33 zs_19 rfl ?_
    refine z_getR dX11_trial_37 zg_X11_139 zs_75 rfl ?_
    refine z_callVi (As := []) (st := []) dX11_trial_40 zi_X11_277 rfl rfl zs_76 rfl rfl (Nat.le_of_ble_eq_true rfl) (by decide) (fun _ _ hx => hx) h10 ?_
    intro r16 M14 h15
    refine z_goto (tgt := 56) dX11_trial_43 (by decide) ?_
    refine z_weak [false, false, false] (ls' := [zU, zU, zU]) rfl rfl ?_
    exact h15
theorem t_X11_trial_56 {E : zEv} {D : Nat} {post : Int32 → zM → Prop} {px : String → zM → Prop} {M : zM}   {s0 : Int32} (h : post s0 M) : w_X11_trial_56 E D post px s0 M := by
  show Z E jX11_trial (D + 1) 1 (zQi post px) 56 1 [zU, zU, zU] [.int s0] M
  exact z_iret dX11_trial_56 rfl rfl (by decide) h
def w_X11_span_30 (E : zEv) (D : Nat) (post : Int32 → zM → Prop) (px : String → zM → Prop)  (y1 : Int32) (y2 : Int32) (s0 : Int32) (M : zM) : Prop := Z E jX11_span (D + 1) 1 (zQi post px) 30 1 [.ref 19, .int y1, .int y2, zU, zU, zU, zU] [.int s0] M
def w_X11_span_34 (E : zEv) (D : Nat) (post : Int32 → zM → Prop) (px : String → zM → Prop)  (y1 : Int32) (y2 : Int32) (y3 : Int32) (y4 : Int32) (M : zM) : Prop := Z E jX11_span (D + 1) 1 (zQi post px) 34 1 [.ref 19, .int y1, .int y2, .int y3, .int y4, zU, zU] [] M
def w_X11_span_77 (E : zEv) (D : Nat) (post : Int32 → zM → Prop) (px : String → zM → Prop)  (y1 : Int32) (y2 : Int32) (y3 : Int32) (y4 : Int32) (y5 : Int32) (M : zM) : Prop := Z E jX11_span (D + 1) 1 (zQi post px) 77 1 [.ref 19, .int y1, .int y2, .int y3, .int y4, .int y5, zU] [] M
def w_X11_span_126 (E : zEv) (D : Nat) (post : Int32 → zM → Prop) (px : String → zM → Prop)  (y1 : Int32) (y2 : Int32) (y4 : Int32) (y5 : Int32) (s0 : Int32) (M : zM) : Prop := Z E jX11_span (D + 1) 1 (zQi post px) 126 1 [.ref 19, .int y1, .int y2, zU, .int y4, .int y5, zU] [.int s0] M
theorem e_X11_span {E : zEv} {D : Nat} {post : Int32 → zM → Prop} {px : String → zM → Prop} {M : zM} {x1 : Int32} {x2 : Int32}  (h : zCv E jX11_needAhead D 1 [.ref 19, .int x1] M (fun M1 => ((¬ (M1.1 62 6) = 0 → ((x2 = 0 → w_X11_span_30 E D post px x1 x2 (99 : Int32) M1) ∧ (¬ x2 = 0 → w_X11_span_30 E D post px x1 x2 (0 : Int32) M1))) ∧ ((M1.1 62 6) = 0 → post (0 : Int32) M1))) px) : zCi E jX11_span (D + 1) 1 [.ref 19, .int x1, .int x2] M post px := by
  refine z_meth (by decide) (Nat.le_of_ble_eq_true rfl) ?_
  show Z E jX11_span (D + 1) 1 (zQi post px) 0 0 [.ref 19, .int x1, .int x2, zU, zU, zU, zU] [] M
  refine z_aload_n dX11_span_0 rfl ?_
  refine z_iload_n dX11_span_1 rfl ?_
  refine z_callVv (As := [.int x1]) (st := []) dX11_span_2 zi_X11_390 rfl rfl zs_19 rfl rfl (Nat.le_of_ble_eq_true rfl) (by decide) (fun _ _ hx => hx) h ?_
  intro M1 h2
  refine z_aload_n dX11_span_5 rfl ?_
  refine z_getR dX11_span_6 zg_X11_29 zs_19 rfl ?_
  refine z_getR dX11_span_9 zg_X11_139 zs_61 rfl ?_
  refine z_getI dX11_span_12 zg_X11_263 zs_62 rfl ?_
  refine z_if_ne (tgt := 20) dX11_span_15 (by decide) (fun g3 => ?_) (fun g3 => ?_)
  · have h4 := h2.1 g3
    refine z_iload_n dX11_span_20 rfl ?_
    refine z_if_eq (tgt := 28) dX11_span_21 (by decide) (fun g6 => ?_) (fun g6 => ?_)
    · have h7 := h4.1 g6
      refine z_bipush (v := (99 : Int32)) dX11_span_28 rfl ?_
      exact h7
    · have h8 := h4.2 g6
      refine z_iconst (v := (0 : Int32)) dX11_span_24 rfl ?_
      refine z_goto (tgt := 30) dX11_span_25 (by decide) ?_
      exact h8
  · have h5 := h2.2 g3
    refine z_iconst (v := (0 : Int32)) dX11_span_18 rfl ?_
    exact z_iret dX11_span_19 rfl rfl (by decide) h5
theorem t_X11_span_30 {E : zEv} {D : Nat} {post : Int32 → zM → Prop} {px : String → zM → Prop} {M : zM}   {y1 : Int32} {y2 : Int32} {s0 : Int32} (h : w_X11_span_34 E D post px y1 y2 s0 (1 : Int32) M) : w_X11_span_30 E D post px y1 y2 s0 M := by
  show Z E jX11_span (D + 1) 1 (zQi post px) 30 1 [.ref 19, .int y1, .int y2, zU, zU, zU, zU] [.int s0] M
  refine z_istore_n dX11_span_30 (by decide) (ls' := [.ref 19, .int y1, .int y2, .int s0, zU, zU, zU]) rfl ?_
  refine z_iconst (v := (1 : Int32)) dX11_span_31 rfl ?_
  refine z_istore dX11_span_32 (by decide) (ls' := [.ref 19, .int y1, .int y2, .int s0, .int (1 : Int32), zU, zU]) rfl ?_
  exact h
theorem t_X11_span_34 {E : zEv} {D : Nat} {post : Int32 → zM → Prop} {px : String → zM → Prop} {M : zM}   {y1 : Int32} {y2 : Int32} {y3 : Int32} {y4 : Int32} (h : (((6 : Int32) < y4 → post y3 M) ∧ (¬ (6 : Int32) < y4 → zCv E jX3_copy D 0 [.ref 75, .ref 61] M (fun M4 => ∀ M6 : zM, M6 = zup M4 75 15 y4 → zCi E jX1_live D 0 [.ref 43, .ref 75, .int y1] M6 (fun r10 M8 => w_X11_span_77 E D post px y1 y2 y3 y4 (0 : Int32) M8) px) px))) : w_X11_span_34 E D post px y1 y2 y3 y4 M := by
  show Z E jX11_span (D + 1) 1 (zQi post px) 34 1 [.ref 19, .int y1, .int y2, .int y3, .int y4, zU, zU] [] M
  refine z_iload dX11_span_34 rfl ?_
  refine z_bipush (v := (6 : Int32)) dX11_span_36 rfl ?_
  refine z_icmp_gt (tgt := 139) dX11_span_38 (by decide) (fun g1 => ?_) (fun g1 => ?_)
  · have h2 := h.1 g1
    refine z_iload_n dX11_span_139 rfl ?_
    exact z_iret dX11_span_140 rfl rfl (by decide) h2
  · have h3 := h.2 g1
    refine z_aload_n dX11_span_41 rfl ?_
    refine z_getR dX11_span_42 zg_X11_33 zs_19 rfl ?_
    refine z_aload_n dX11_span_45 rfl ?_
    refine z_getR dX11_span_46 zg_X11_29 zs_19 rfl ?_
    refine z_callVv (As := [.ref 61]) (st := []) dX11_span_49 zi_X11_89 rfl rfl zs_75 rfl rfl (Nat.le_of_ble_eq_true rfl) (by decide) (fun _ _ hx => hx) h3 ?_
    intro M4 h5
    refine z_aload_n dX11_span_52 rfl ?_
    refine z_getR dX11_span_53 zg_X11_33 zs_19 rfl ?_
    refine z_iload dX11_span_56 rfl ?_
    refine z_putI dX11_span_58 zp_X11_396 zs_75 rfl rfl rfl ?_
    generalize hhM6 : zup M4 75 15 y4 = M6
    have h7 := h5 M6 hhM6.symm
    refine z_aload_n dX11_span_61 rfl ?_
    refine z_getR dX11_span_62 zg_X11_49 zs_19 rfl ?_
    refine z_aload_n dX11_span_65 rfl ?_
    refine z_getR dX11_span_66 zg_X11_33 zs_19 rfl ?_
    refine z_iload_n dX11_span_69 rfl ?_
    refine z_callVi (As := [.ref 75, .int y1]) (st := []) dX11_span_70 zi_X11_224 rfl rfl zs_43 rfl rfl (Nat.le_of_ble_eq_true rfl) (by decide) (fun _ _ hx => hx) h7 ?_
    intro r10 M8 h9
    refine z_pop dX11_span_73 rfl ?_
    refine z_iconst (v := (0 : Int32)) dX11_span_74 rfl ?_
    refine z_istore dX11_span_75 (by decide) (ls' := [.ref 19, .int y1, .int y2, .int y3, .int y4, .int (0 : Int32), zU]) rfl ?_
    exact h9
theorem t_X11_span_77 {E : zEv} {D : Nat} {post : Int32 → zM → Prop} {px : String → zM → Prop} {M : zM}   {y1 : Int32} {y2 : Int32} {y3 : Int32} {y4 : Int32} {y5 : Int32} (h : (((M.1 62 6) ≤ y5 → w_X11_span_34 E D post px y1 y2 y3 (y4 + (1 : Int32)) M) ∧ (¬ (M.1 62 6) ≤ y5 → vp_in y5 5 ∧ ((y2 = 0 → w_X11_span_126 E D post px y1 y2 y4 y5 (zmin y3 (M.1 80 (y5).toNatClampNeg)) M) ∧ (¬ y2 = 0 → w_X11_span_126 E D post px y1 y2 y4 y5 (zmax y3 (M.1 80 (y5).toNatClampNeg)) M))))) : w_X11_span_77 E D post px y1 y2 y3 y4 y5 M := by
  show Z E jX11_span (D + 1) 1 (zQi post px) 77 1 [.ref 19, .int y1, .int y2, .int y3, .int y4, .int y5, zU] [] M
  refine z_iload dX11_span_77 rfl ?_
  refine z_aload_n dX11_span_79 rfl ?_
  refine z_getR dX11_span_80 zg_X11_29 zs_19 rfl ?_
  refine z_getR dX11_span_83 zg_X11_139 zs_61 rfl ?_
  refine z_getI dX11_span_86 zg_X11_263 zs_62 rfl ?_
  refine z_icmp_ge (tgt := 133) dX11_span_89 (by decide) (fun g1 => ?_) (fun g1 => ?_)
  · have h2 := h.1 g1
    refine z_iinc dX11_span_133 rfl (by decide) (ls' := [.ref 19, .int y1, .int y2, .int y3, .int (y4 + (1 : Int32)), .int y5, zU]) rfl ?_
    refine z_goto (tgt := 34) dX11_span_136 (by decide) ?_
    refine z_weak [true, true, true, true, true, false, false] (ls' := [.ref 19, .int y1, .int y2, .int y3, .int (y4 + (1 : Int32)), zU, zU]) rfl rfl ?_
    exact h2
  · have h3 := h.2 g1
    refine z_aload_n dX11_span_92 rfl ?_
    refine z_getR dX11_span_93 zg_X11_33 zs_19 rfl ?_
    refine z_getR dX11_span_96 zg_X11_139 zs_75 rfl ?_
    refine z_getR dX11_span_99 zg_X11_155 zs_76 rfl ?_
    refine z_iload dX11_span_102 rfl ?_
    obtain ⟨g5, h4⟩ := h3
    refine z_iald dX11_span_104 zs_80 g5 ?_
    refine z_istore dX11_span_105 (by decide) (ls' := [.ref 19, .int y1, .int y2, .int y3, .int y4, .int y5, .int (M.1 80 (y5).toNatClampNeg)]) rfl ?_
    refine z_iload_n dX11_span_107 rfl ?_
    refine z_if_eq (tgt := 120) dX11_span_108 (by decide) (fun g6 => ?_) (fun g6 => ?_)
    · have h7 := h4.1 g6
      refine z_iload_n dX11_span_120 rfl ?_
      refine z_iload dX11_span_121 rfl ?_
      refine z_min dX11_span_123 zm_X11_240 (Nat.le_of_ble_eq_true rfl) (by decide) ?_
      refine z_weak [true, true, true, false, true, true, false] (ls' := [.ref 19, .int y1, .int y2, zU, .int y4, .int y5, zU]) rfl rfl ?_
      exact h7
    · have h8 := h4.2 g6
      refine z_iload_n dX11_span_111 rfl ?_
      refine z_iload dX11_span_112 rfl ?_
      refine z_max dX11_span_114 zm_X11_367 (Nat.le_of_ble_eq_true rfl) (by decide) ?_
      refine z_goto (tgt := 126) dX11_span_117 (by decide) ?_
      refine z_weak [true, true, true, false, true, true, false] (ls' := [.ref 19, .int y1, .int y2, zU, .int y4, .int y5, zU]) rfl rfl ?_
      exact h8
theorem t_X11_span_126 {E : zEv} {D : Nat} {post : Int32 → zM → Prop} {px : String → zM → Prop} {M : zM}   {y1 : Int32} {y2 : Int32} {y4 : Int32} {y5 : Int32} {s0 : Int32} (h : w_X11_span_77 E D post px y1 y2 s0 y4 (y5 + (1 : Int32)) M) : w_X11_span_126 E D post px y1 y2 y4 y5 s0 M := by
  show Z E jX11_span (D + 1) 1 (zQi post px) 126 1 [.ref 19, .int y1, .int y2, zU, .int y4, .int y5, zU] [.int s0] M
  refine z_istore_n dX11_span_126 (by decide) (ls' := [.ref 19, .int y1, .int y2, .int s0, .int y4, .int y5, zU]) rfl ?_
  refine z_iinc dX11_span_127 rfl (by decide) (ls' := [.ref 19, .int y1, .int y2, .int s0, .int y4, .int (y5 + (1 : Int32)), zU]) rfl ?_
  refine z_goto (tgt := 77) dX11_span_130 (by decide) ?_
  exact h
def w_X11_led_22 (E : zEv) (D : Nat) (post : Int32 → zM → Prop) (px : String → zM → Prop)  (y1 : Int32) (y2 : Int32) (y4 : Int32) (y5 : Int32) (y6 : Int32) (M : zM) : Prop := Z E jX11_led (D + 1) 1 (zQi post px) 22 1 [zU, .int y1, .int y2, .ref 69, .int y4, .int y5, .int y6] [] M
def w_X11_led_81 (E : zEv) (D : Nat) (post : Int32 → zM → Prop) (px : String → zM → Prop)  (s0 : Int32) (M : zM) : Prop := Z E jX11_led (D + 1) 1 (zQi post px) 81 1 [zU, zU, zU, zU, zU, zU, zU] [.int s0] M
def w_X11_led_64 (E : zEv) (D : Nat) (post : Int32 → zM → Prop) (px : String → zM → Prop)  (y1 : Int32) (y2 : Int32) (y4 : Int32) (y5 : Int32) (y6 : Int32) (M : zM) : Prop := Z E jX11_led (D + 1) 1 (zQi post px) 64 1 [zU, .int y1, .int y2, .ref 69, .int y4, .int y5, .int y6] [] M
def w_X11_led_59 (E : zEv) (D : Nat) (post : Int32 → zM → Prop) (px : String → zM → Prop)  (y1 : Int32) (y2 : Int32) (y4 : Int32) (y6 : Int32) (s0 : Int32) (M : zM) : Prop := Z E jX11_led (D + 1) 1 (zQi post px) 59 1 [zU, .int y1, .int y2, .ref 69, .int y4, zU, .int y6] [.int s0] M
theorem e_X11_led {E : zEv} {D : Nat} {post : Int32 → zM → Prop} {px : String → zM → Prop} {M : zM} {x1 : Int32} {x2 : Int32}  (h : zCv E jX11_needWitness D 1 [.ref 19, .int x1] M (fun M1 => w_X11_led_22 E D post px x1 x2 (0 : Int32) (-1 : Int32) (0 : Int32) M1) px) : zCi E jX11_led (D + 1) 1 [.ref 19, .int x1, .int x2] M post px := by
  refine z_meth (by decide) (Nat.le_of_ble_eq_true rfl) ?_
  show Z E jX11_led (D + 1) 1 (zQi post px) 0 0 [.ref 19, .int x1, .int x2, zU, zU, zU, zU] [] M
  refine z_aload_n dX11_led_0 rfl ?_
  refine z_iload_n dX11_led_1 rfl ?_
  refine z_callVv (As := [.int x1]) (st := []) dX11_led_2 zi_X11_136 rfl rfl zs_19 rfl rfl (Nat.le_of_ble_eq_true rfl) (by decide) (fun _ _ hx => hx) h ?_
  intro M1 h2
  refine z_aload_n dX11_led_5 rfl ?_
  refine z_getR dX11_led_6 zg_X11_29 zs_19 rfl ?_
  refine z_getR dX11_led_9 zg_X11_399 zs_61 rfl ?_
  refine z_astore_n dX11_led_12 (by decide) (ls' := [.ref 19, .int x1, .int x2, .ref 69, zU, zU, zU]) rfl ?_
  refine z_iconst (v := (0 : Int32)) dX11_led_13 rfl ?_
  refine z_istore dX11_led_14 (by decide) (ls' := [.ref 19, .int x1, .int x2, .ref 69, .int (0 : Int32), zU, zU]) rfl ?_
  refine z_iconst (v := (-1 : Int32)) dX11_led_16 rfl ?_
  refine z_istore dX11_led_17 (by decide) (ls' := [.ref 19, .int x1, .int x2, .ref 69, .int (0 : Int32), .int (-1 : Int32), zU]) rfl ?_
  refine z_iconst (v := (0 : Int32)) dX11_led_19 rfl ?_
  refine z_istore dX11_led_20 (by decide) (ls' := [.ref 19, .int x1, .int x2, .ref 69, .int (0 : Int32), .int (-1 : Int32), .int (0 : Int32)]) rfl ?_
  refine z_weak [false, true, true, true, true, true, true] (ls' := [zU, .int x1, .int x2, .ref 69, .int (0 : Int32), .int (-1 : Int32), .int (0 : Int32)]) rfl rfl ?_
  exact h2
theorem t_X11_led_22 {E : zEv} {D : Nat} {post : Int32 → zM → Prop} {px : String → zM → Prop} {M : zM}   {y1 : Int32} {y2 : Int32} {y4 : Int32} {y5 : Int32} {y6 : Int32} (h : (((M.1 69 1) ≤ y6 → ((y2 = 0 → w_X11_led_81 E D post px y4 M) ∧ (¬ y2 = 0 → w_X11_led_81 E D post px y5 M))) ∧ (¬ (M.1 69 1) ≤ y6 → zCi E jX7_read D 0 [.ref 69, .int y6, .int (1 : Int32)] M (fun r9 M7 => ((¬ r9 = y1 → w_X11_led_64 E D post px y1 y2 y4 y5 y6 M7) ∧ (r9 = y1 → ((¬ y4 = 0 → w_X11_led_59 E D post px y1 y2 y4 y6 y5 M7) ∧ (y4 = 0 → zCi E jX7_read D 0 [.ref 69, .int y6, .int (0 : Int32)] M7 (fun r18 M16 => w_X11_led_59 E D post px y1 y2 y4 y6 r18 M16) px))))) px))) : w_X11_led_22 E D post px y1 y2 y4 y5 y6 M := by
  show Z E jX11_led (D + 1) 1 (zQi post px) 22 1 [zU, .int y1, .int y2, .ref 69, .int y4, .int y5, .int y6] [] M
  refine z_iload dX11_led_22 rfl ?_
  refine z_aload_n dX11_led_24 rfl ?_
  refine z_getI dX11_led_25 zg_X11_403 zs_69 rfl ?_
  refine z_icmp_ge (tgt := 70) dX11_led_28 (by decide) (fun g1 => ?_) (fun g1 => ?_)
  · have h2 := h.1 g1
    refine z_iload_n dX11_led_70 rfl ?_
    refine z_if_eq (tgt := 79) dX11_led_71 (by decide) (fun g4 => ?_) (fun g4 => ?_)
    · have h5 := h2.1 g4
      refine z_iload dX11_led_79 rfl ?_
      refine z_weak [false, false, false, false, false, false, false] (ls' := [zU, zU, zU, zU, zU, zU, zU]) rfl rfl ?_
      exact h5
    · have h6 := h2.2 g4
      refine z_iload dX11_led_74 rfl ?_
      refine z_goto (tgt := 81) dX11_led_76 (by decide) ?_
      refine z_weak [false, false, false, false, false, false, false] (ls' := [zU, zU, zU, zU, zU, zU, zU]) rfl rfl ?_
      exact h6
  · have h3 := h.2 g1
    refine z_aload_n dX11_led_31 rfl ?_
    refine z_iload dX11_led_32 rfl ?_
    refine z_iconst (v := (1 : Int32)) dX11_led_34 rfl ?_
    refine z_callVi (As := [.int y6, .int (1 : Int32)]) (st := []) dX11_led_35 zi_X11_406 rfl rfl zs_69 rfl rfl (Nat.le_of_ble_eq_true rfl) (by decide) (fun _ _ hx => hx) h3 ?_
    intro r9 M7 h8
    refine z_iload_n dX11_led_38 rfl ?_
    refine z_icmp_ne (tgt := 64) dX11_led_39 (by decide) (fun g10 => ?_) (fun g10 => ?_)
    · have h11 := h8.1 g10
      exact h11
    · have h12 := h8.2 g10
      refine z_iload dX11_led_42 rfl ?_
      refine z_if_ne (tgt := 57) dX11_led_44 (by decide) (fun g13 => ?_) (fun g13 => ?_)
      · have h14 := h12.1 g13
        refine z_iload dX11_led_57 rfl ?_
        refine z_weak [false, true, true, true, true, false, true] (ls' := [zU, .int y1, .int y2, .ref 69, .int y4, zU, .int y6]) rfl rfl ?_
        exact h14
      · have h15 := h12.2 g13
        refine z_aload_n dX11_led_47 rfl ?_
        refine z_iload dX11_led_48 rfl ?_
        refine z_iconst (v := (0 : Int32)) dX11_led_50 rfl ?_
        refine z_callVi (As := [.int y6, .int (0 : Int32)]) (st := []) dX11_led_51 zi_X11_406 rfl rfl zs_69 rfl rfl (Nat.le_of_ble_eq_true rfl) (by decide) (fun _ _ hx => hx) h15 ?_
        intro r18 M16 h17
        refine z_goto (tgt := 59) dX11_led_54 (by decide) ?_
        refine z_weak [false, true, true, true, true, false, true] (ls' := [zU, .int y1, .int y2, .ref 69, .int y4, zU, .int y6]) rfl rfl ?_
        exact h17
theorem t_X11_led_81 {E : zEv} {D : Nat} {post : Int32 → zM → Prop} {px : String → zM → Prop} {M : zM}   {s0 : Int32} (h : post s0 M) : w_X11_led_81 E D post px s0 M := by
  show Z E jX11_led (D + 1) 1 (zQi post px) 81 1 [zU, zU, zU, zU, zU, zU, zU] [.int s0] M
  exact z_iret dX11_led_81 rfl rfl (by decide) h
theorem t_X11_led_64 {E : zEv} {D : Nat} {post : Int32 → zM → Prop} {px : String → zM → Prop} {M : zM}   {y1 : Int32} {y2 : Int32} {y4 : Int32} {y5 : Int32} {y6 : Int32} (h : w_X11_led_22 E D post px y1 y2 y4 y5 (y6 + (1 : Int32)) M) : w_X11_led_64 E D post px y1 y2 y4 y5 y6 M := by
  show Z E jX11_led (D + 1) 1 (zQi post px) 64 1 [zU, .int y1, .int y2, .ref 69, .int y4, .int y5, .int y6] [] M
  refine z_iinc dX11_led_64 rfl (by decide) (ls' := [zU, .int y1, .int y2, .ref 69, .int y4, .int y5, .int (y6 + (1 : Int32))]) rfl ?_
  refine z_goto (tgt := 22) dX11_led_67 (by decide) ?_
  exact h
theorem t_X11_led_59 {E : zEv} {D : Nat} {post : Int32 → zM → Prop} {px : String → zM → Prop} {M : zM}   {y1 : Int32} {y2 : Int32} {y4 : Int32} {y6 : Int32} {s0 : Int32} (h : w_X11_led_64 E D post px y1 y2 (y4 + (1 : Int32)) s0 y6 M) : w_X11_led_59 E D post px y1 y2 y4 y6 s0 M := by
  show Z E jX11_led (D + 1) 1 (zQi post px) 59 1 [zU, .int y1, .int y2, .ref 69, .int y4, zU, .int y6] [.int s0] M
  refine z_istore dX11_led_59 (by decide) (ls' := [zU, .int y1, .int y2, .ref 69, .int y4, .int s0, .int y6]) rfl ?_
  refine z_iinc dX11_led_61 rfl (by decide) (ls' := [zU, .int y1, .int y2, .ref 69, .int (y4 + (1 : Int32)), .int s0, .int y6]) rfl ?_
  exact h
theorem e_X11_seed {E : zEv} {D : Nat} {post : Int32 → zM → Prop} {px : String → zM → Prop} {M : zM} {x1 : Int32}  (h : ∀ M1 : zM, M1 = zup M 61 15 x1 → post (M.1 61 15) M1) : zCi E jX11_seed D 0 [.ref 19, .int x1] M post px := by
  refine z_meth (by decide) (Nat.le_of_ble_eq_true rfl) ?_
  show Z E jX11_seed D 0 (zQi post px) 0 0 [.ref 19, .int x1, zU] [] M
  refine z_aload_n dX11_seed_0 rfl ?_
  refine z_getR dX11_seed_1 zg_X11_29 zs_19 rfl ?_
  refine z_getI dX11_seed_4 zg_X11_396 zs_61 rfl ?_
  refine z_istore_n dX11_seed_7 (by decide) (ls' := [.ref 19, .int x1, .int (M.1 61 15)]) rfl ?_
  refine z_aload_n dX11_seed_8 rfl ?_
  refine z_getR dX11_seed_9 zg_X11_29 zs_19 rfl ?_
  refine z_iload_n dX11_seed_12 rfl ?_
  refine z_putI dX11_seed_13 zp_X11_396 zs_61 rfl rfl rfl ?_
  generalize hhM1 : zup M 61 15 x1 = M1
  have h2 := h M1 hhM1.symm
  refine z_iload_n dX11_seed_16 rfl ?_
  exact z_iret dX11_seed_17 rfl rfl (by decide) h2
theorem e_X11_undo {E : zEv} {D : Nat} {post : Int32 → zM → Prop} {px : String → zM → Prop} {M : zM}   (h : zCi E jX5_undoInto D 0 [.ref 59, .ref 61] M (fun r3 M1 => (r3 = 0 ∨ r3 = 1) ∧ post r3 M1) px) : zCi E jX11_undo (D + 1) 0 [.ref 19] M post px := by
  refine z_meth (by decide) (Nat.le_of_ble_eq_true rfl) ?_
  show Z E jX11_undo (D + 1) 0 (zQi post px) 0 0 [.ref 19] [] M
  refine z_aload_n dX11_undo_0 rfl ?_
  refine z_getR dX11_undo_1 zg_X11_42 zs_19 rfl ?_
  refine z_aload_n dX11_undo_4 rfl ?_
  refine z_getR dX11_undo_5 zg_X11_29 zs_19 rfl ?_
  refine z_callVi (As := [.ref 61]) (st := []) dX11_undo_8 zi_X11_410 rfl rfl zs_59 rfl rfl (Nat.le_of_ble_eq_true rfl) (by decide) (fun _ _ hx => hx) h ?_
  intro r3 M1 h2
  obtain ⟨g5, h4⟩ := h2
  exact z_iret dX11_undo_11 rfl (zbool g5) (by decide) h4
theorem e_X11_image {E : zEv} {D : Nat} {post : zM → Prop} {px : String → zM → Prop} {M : zM}   (h : zCv E jX3_copy D 0 [.ref 89, .ref 61] M (fun M1 => zCv E jX6_copy D 0 [.ref 29, .ref 36] M1 (fun M3 => ∀ M5 : zM, M5 = zup M3 19 12 (1 : Int32) → post M5) px) px) : zCv E jX11_image (D + 1) 0 [.ref 19] M post px := by
  refine z_meth (by decide) (Nat.le_of_ble_eq_true rfl) ?_
  show Z E jX11_image (D + 1) 0 (zQv post px) 0 0 [.ref 19] [] M
  refine z_aload_n dX11_image_0 rfl ?_
  refine z_getR dX11_image_1 zg_X11_36 zs_19 rfl ?_
  refine z_aload_n dX11_image_4 rfl ?_
  refine z_getR dX11_image_5 zg_X11_29 zs_19 rfl ?_
  refine z_callVv (As := [.ref 61]) (st := []) dX11_image_8 zi_X11_89 rfl rfl zs_89 rfl rfl (Nat.le_of_ble_eq_true rfl) (by decide) (fun _ _ hx => hx) h ?_
  intro M1 h2
  refine z_aload_n dX11_image_11 rfl ?_
  refine z_getR dX11_image_12 zg_X11_23 zs_19 rfl ?_
  refine z_aload_n dX11_image_15 rfl ?_
  refine z_getR dX11_image_16 zg_X11_49 zs_19 rfl ?_
  refine z_getR dX11_image_19 zg_X11_127 zs_43 rfl ?_
  refine z_callVv (As := [.ref 36]) (st := []) dX11_image_22 zi_X11_130 rfl rfl zs_29 rfl rfl (Nat.le_of_ble_eq_true rfl) (by decide) (fun _ _ hx => hx) h2 ?_
  intro M3 h4
  refine z_aload_n dX11_image_25 rfl ?_
  refine z_iconst (v := (1 : Int32)) dX11_image_26 rfl ?_
  refine z_putI dX11_image_27 zp_X11_78 zs_19 rfl (by decide) rfl ?_
  generalize hhM5 : zup M3 19 12 (1 : Int32) = M5
  have h6 := h4 M5 hhM5.symm
  exact z_vret dX11_image_30 rfl (by decide) h6
theorem e_X11_back {E : zEv} {D : Nat} {post : Int32 → zM → Prop} {px : String → zM → Prop} {M : zM}   (h : ((¬ (M.1 19 12) = 0 → zCv E jX3_copy D 0 [.ref 61, .ref 89] M (fun M4 => zCv E jX6_copy D 0 [.ref 36, .ref 29] M4 (fun M6 => zCv E jX5_forget D 0 [.ref 59] M6 (fun M8 => post (1 : Int32) M8) px) px) px) ∧ ((M.1 19 12) = 0 → post (0 : Int32) M))) : zCi E jX11_back (D + 1) 0 [.ref 19] M post px := by
  refine z_meth (by decide) (Nat.le_of_ble_eq_true rfl) ?_
  show Z E jX11_back (D + 1) 0 (zQi post px) 0 0 [.ref 19] [] M
  refine z_aload_n dX11_back_0 rfl ?_
  refine z_getI dX11_back_1 zg_X11_78 zs_19 rfl ?_
  refine z_if_ne (tgt := 9) dX11_back_4 (by decide) (fun g1 => ?_) (fun g1 => ?_)
  · have h2 := h.1 g1
    refine z_aload_n dX11_back_9 rfl ?_
    refine z_getR dX11_back_10 zg_X11_29 zs_19 rfl ?_
    refine z_aload_n dX11_back_13 rfl ?_
    refine z_getR dX11_back_14 zg_X11_36 zs_19 rfl ?_
    refine z_callVv (As := [.ref 89]) (st := []) dX11_back_17 zi_X11_89 rfl rfl zs_61 rfl rfl (Nat.le_of_ble_eq_true rfl) (by decide) (fun _ _ hx => hx) h2 ?_
    intro M4 h5
    refine z_aload_n dX11_back_20 rfl ?_
    refine z_getR dX11_back_21 zg_X11_49 zs_19 rfl ?_
    refine z_getR dX11_back_24 zg_X11_127 zs_43 rfl ?_
    refine z_aload_n dX11_back_27 rfl ?_
    refine z_getR dX11_back_28 zg_X11_23 zs_19 rfl ?_
    refine z_callVv (As := [.ref 29]) (st := []) dX11_back_31 zi_X11_130 rfl rfl zs_36 rfl rfl (Nat.le_of_ble_eq_true rfl) (by decide) (fun _ _ hx => hx) h5 ?_
    intro M6 h7
    refine z_aload_n dX11_back_34 rfl ?_
    refine z_getR dX11_back_35 zg_X11_42 zs_19 rfl ?_
    refine z_callVv (As := []) (st := []) dX11_back_38 zi_X11_121 rfl rfl zs_59 rfl rfl (Nat.le_of_ble_eq_true rfl) (by decide) (fun _ _ hx => hx) h7 ?_
    intro M8 h9
    refine z_iconst (v := (1 : Int32)) dX11_back_41 rfl ?_
    exact z_iret dX11_back_42 rfl (by decide) (by decide) h9
  · have h3 := h.2 g1
    refine z_iconst (v := (0 : Int32)) dX11_back_7 rfl ?_
    exact z_iret dX11_back_8 rfl (by decide) (by decide) h3
theorem e_X11_count {E : zEv} {D : Nat} {post : Int32 → zM → Prop} {px : String → zM → Prop} {M : zM} {x1 : Int32}  (h : ((x1 = (0 : Int32) → post (M.1 62 6) M) ∧ (¬ x1 = (0 : Int32) → ((x1 = (1 : Int32) → post (M.1 61 6) M) ∧ (¬ x1 = (1 : Int32) → ((x1 = (2 : Int32) → post (M.1 61 7) M) ∧ (¬ x1 = (2 : Int32) → ((x1 = (3 : Int32) → post (M.1 61 8) M) ∧ (¬ x1 = (3 : Int32) → ((x1 = (4 : Int32) → post (M.1 61 9) M) ∧ (¬ x1 = (4 : Int32) → ((x1 = (5 : Int32) → post (M.1 36 6) M) ∧ (¬ x1 = (5 : Int32) → ((x1 = (6 : Int32) → post (M.1 61 14) M) ∧ (¬ x1 = (6 : Int32) → ((x1 = (7 : Int32) → post (M.1 61 11) M) ∧ (¬ x1 = (7 : Int32) → ((x1 = (8 : Int32) → zCi E jX8_allShades D 0 [.ref 62] M (fun r29 M27 => post r29 M27) px) ∧ (¬ x1 = (8 : Int32) → ((x1 = (9 : Int32) → post (M.1 69 1) M) ∧ (¬ x1 = (9 : Int32) → ((x1 = (10 : Int32) → post (M.1 59 1) M) ∧ (¬ x1 = (10 : Int32) → post (-1 : Int32) M))))))))))))))))))))))) : zCi E jX11_count (D + 1) 0 [.ref 19, .int x1] M post px := by
  refine z_meth (by decide) (Nat.le_of_ble_eq_true rfl) ?_
  show Z E jX11_count (D + 1) 0 (zQi post px) 0 0 [.ref 19, .int x1] [] M
  refine z_iload_n dX11_count_0 rfl ?_
  by_cases g1 : x1 = (0 : Int32)
  · have h2 := h.1 g1
    refine z_tableIn (tgt := 60) dX11_count_1 (by rw [g1]; decide) (by rw [g1]; decide) (by rw [g1]; rfl) (by decide) ?_
    refine z_aload_n dX11_count_60 rfl ?_
    refine z_getR dX11_count_61 zg_X11_29 zs_19 rfl ?_
    refine z_getR dX11_count_64 zg_X11_139 zs_61 rfl ?_
    refine z_getI dX11_count_67 zg_X11_263 zs_62 rfl ?_
    exact z_iret dX11_count_70 rfl rfl (by decide) h2
  have h3 := h.2 g1
  by_cases g4 : x1 = (1 : Int32)
  · have h5 := h3.1 g4
    refine z_tableIn (tgt := 71) dX11_count_1 (by rw [g4]; decide) (by rw [g4]; decide) (by rw [g4]; rfl) (by decide) ?_
    refine z_aload_n dX11_count_71 rfl ?_
    refine z_getR dX11_count_72 zg_X11_29 zs_19 rfl ?_
    refine z_getI dX11_count_75 zg_X11_384 zs_61 rfl ?_
    exact z_iret dX11_count_78 rfl rfl (by decide) h5
  have h6 := h3.2 g4
  by_cases g7 : x1 = (2 : Int32)
  · have h8 := h6.1 g7
    refine z_tableIn (tgt := 79) dX11_count_1 (by rw [g7]; decide) (by rw [g7]; decide) (by rw [g7]; rfl) (by decide) ?_
    refine z_aload_n dX11_count_79 rfl ?_
    refine z_getR dX11_count_80 zg_X11_29 zs_19 rfl ?_
    refine z_getI dX11_count_83 zg_X11_296 zs_61 rfl ?_
    exact z_iret dX11_count_86 rfl rfl (by decide) h8
  have h9 := h6.2 g7
  by_cases g10 : x1 = (3 : Int32)
  · have h11 := h9.1 g10
    refine z_tableIn (tgt := 87) dX11_count_1 (by rw [g10]; decide) (by rw [g10]; decide) (by rw [g10]; rfl) (by decide) ?_
    refine z_aload_n dX11_count_87 rfl ?_
    refine z_getR dX11_count_88 zg_X11_29 zs_19 rfl ?_
    refine z_getI dX11_count_91 zg_X11_327 zs_61 rfl ?_
    exact z_iret dX11_count_94 rfl rfl (by decide) h11
  have h12 := h9.2 g10
  by_cases g13 : x1 = (4 : Int32)
  · have h14 := h12.1 g13
    refine z_tableIn (tgt := 95) dX11_count_1 (by rw [g13]; decide) (by rw [g13]; decide) (by rw [g13]; rfl) (by decide) ?_
    refine z_aload_n dX11_count_95 rfl ?_
    refine z_getR dX11_count_96 zg_X11_29 zs_19 rfl ?_
    refine z_getI dX11_count_99 zg_X11_113 zs_61 rfl ?_
    exact z_iret dX11_count_102 rfl rfl (by decide) h14
  have h15 := h12.2 g13
  by_cases g16 : x1 = (5 : Int32)
  · have h17 := h15.1 g16
    refine z_tableIn (tgt := 103) dX11_count_1 (by rw [g16]; decide) (by rw [g16]; decide) (by rw [g16]; rfl) (by decide) ?_
    refine z_aload_n dX11_count_103 rfl ?_
    refine z_getR dX11_count_104 zg_X11_49 zs_19 rfl ?_
    refine z_getR dX11_count_107 zg_X11_127 zs_43 rfl ?_
    refine z_getI dX11_count_110 zg_X11_133 zs_36 rfl ?_
    exact z_iret dX11_count_113 rfl rfl (by decide) h17
  have h18 := h15.2 g16
  by_cases g19 : x1 = (6 : Int32)
  · have h20 := h18.1 g19
    refine z_tableIn (tgt := 114) dX11_count_1 (by rw [g19]; decide) (by rw [g19]; decide) (by rw [g19]; rfl) (by decide) ?_
    refine z_aload_n dX11_count_114 rfl ?_
    refine z_getR dX11_count_115 zg_X11_29 zs_19 rfl ?_
    refine z_getI dX11_count_118 zg_X11_414 zs_61 rfl ?_
    exact z_iret dX11_count_121 rfl rfl (by decide) h20
  have h21 := h18.2 g19
  by_cases g22 : x1 = (7 : Int32)
  · have h23 := h21.1 g22
    refine z_tableIn (tgt := 122) dX11_count_1 (by rw [g22]; decide) (by rw [g22]; decide) (by rw [g22]; rfl) (by decide) ?_
    refine z_aload_n dX11_count_122 rfl ?_
    refine z_getR dX11_count_123 zg_X11_29 zs_19 rfl ?_
    refine z_getI dX11_count_126 zg_X11_248 zs_61 rfl ?_
    exact z_iret dX11_count_129 rfl rfl (by decide) h23
  have h24 := h21.2 g22
  by_cases g25 : x1 = (8 : Int32)
  · have h26 := h24.1 g25
    refine z_tableIn (tgt := 130) dX11_count_1 (by rw [g25]; decide) (by rw [g25]; decide) (by rw [g25]; rfl) (by decide) ?_
    refine z_aload_n dX11_count_130 rfl ?_
    refine z_getR dX11_count_131 zg_X11_29 zs_19 rfl ?_
    refine z_getR dX11_count_134 zg_X11_139 zs_61 rfl ?_
    refine z_callVi (As := []) (st := []) dX11_count_137 zi_X11_277 rfl rfl zs_62 rfl rfl (Nat.le_of_ble_eq_true rfl) (by decide) (fun _ _ hx => hx) h26 ?_
    intro r29 M27 h28
    exact z_iret dX11_count_140 rfl rfl (by decide) h28
  have h30 := h24.2 g25
  by_cases g31 : x1 = (9 : Int32)
  · have h32 := h30.1 g31
    refine z_tableIn (tgt := 141) dX11_count_1 (by rw [g31]; decide) (by rw [g31]; decide) (by rw [g31]; rfl) (by decide) ?_
    refine z_aload_n dX11_count_141 rfl ?_
    refine z_getR dX11_count_142 zg_X11_29 zs_19 rfl ?_
    refine z_getR dX11_count_145 zg_X11_399 zs_61 rfl ?_
    refine z_getI dX11_count_148 zg_X11_403 zs_69 rfl ?_
    exact z_iret dX11_count_151 rfl rfl (by decide) h32
  have h33 := h30.2 g31
  by_cases g34 : x1 = (10 : Int32)
  · have h35 := h33.1 g34
    refine z_tableIn (tgt := 152) dX11_count_1 (by rw [g34]; decide) (by rw [g34]; decide) (by rw [g34]; rfl) (by decide) ?_
    refine z_aload_n dX11_count_152 rfl ?_
    refine z_getR dX11_count_153 zg_X11_42 zs_19 rfl ?_
    refine z_getI dX11_count_156 zg_X11_417 zs_59 rfl ?_
    exact z_iret dX11_count_159 rfl rfl (by decide) h35
  have h36 := h33.2 g34
  refine z_tableOut (tgt := 160) dX11_count_1 (by have := zne_toInt g1 (by decide : ((0 : Int32)).toInt = 0); have := zne_toInt g4 (by decide : ((1 : Int32)).toInt = 1); have := zne_toInt g7 (by decide : ((2 : Int32)).toInt = 2); have := zne_toInt g10 (by decide : ((3 : Int32)).toInt = 3); have := zne_toInt g13 (by decide : ((4 : Int32)).toInt = 4); have := zne_toInt g16 (by decide : ((5 : Int32)).toInt = 5); have := zne_toInt g19 (by decide : ((6 : Int32)).toInt = 6); have := zne_toInt g22 (by decide : ((7 : Int32)).toInt = 7); have := zne_toInt g25 (by decide : ((8 : Int32)).toInt = 8); have := zne_toInt g31 (by decide : ((9 : Int32)).toInt = 9); have := zne_toInt g34 (by decide : ((10 : Int32)).toInt = 10); omega) (by decide) ?_
  refine z_iconst (v := (-1 : Int32)) dX11_count_160 rfl ?_
  exact z_iret dX11_count_161 rfl rfl (by decide) h36
def w_X11_needWitness_18 (E : zEv) (D : Nat) (post : zM → Prop) (px : String → zM → Prop)   (M : zM) : Prop := Z E jX11_needWitness D 1 (zQv post px) 18 0 [zU, zU] [] M
theorem e_X11_needWitness {E : zEv} {D : Nat} {post : zM → Prop} {px : String → zM → Prop} {M : zM} {x1 : Int32}  (h : ((x1 < 0 → w_X11_needWitness_18 E D post px  M) ∧ (¬ x1 < 0 → ((x1 < (M.1 62 6) → post M) ∧ (¬ x1 < (M.1 62 6) → w_X11_needWitness_18 E D post px  M))))) : zCv E jX11_needWitness D 1 [.ref 19, .int x1] M post px := by
  refine z_meth (by decide) (Nat.le_of_ble_eq_true rfl) ?_
  show Z E jX11_needWitness D 1 (zQv post px) 0 0 [.ref 19, .int x1] [] M
  refine z_iload_n dX11_needWitness_0 rfl ?_
  refine z_if_lt (tgt := 18) dX11_needWitness_1 (by decide) (fun g1 => ?_) (fun g1 => ?_)
  · have h2 := h.1 g1
    refine z_weak [false, false] (ls' := [zU, zU]) rfl rfl ?_
    exact h2
  · have h3 := h.2 g1
    refine z_iload_n dX11_needWitness_4 rfl ?_
    refine z_aload_n dX11_needWitness_5 rfl ?_
    refine z_getR dX11_needWitness_6 zg_X11_29 zs_19 rfl ?_
    refine z_getR dX11_needWitness_9 zg_X11_139 zs_61 rfl ?_
    refine z_getI dX11_needWitness_12 zg_X11_263 zs_62 rfl ?_
    refine z_icmp_lt (tgt := 29) dX11_needWitness_15 (by decide) (fun g4 => ?_) (fun g4 => ?_)
    · have h5 := h3.1 g4
      exact z_vret dX11_needWitness_29 rfl (by decide) h5
    · have h6 := h3.2 g4
      refine z_weak [false, false] (ls' := [zU, zU]) rfl rfl ?_
      exact h6
theorem t_X11_needWitness_18 {E : zEv} {D : Nat} {post : zM → Prop} {px : String → zM → Prop} {M : zM}    (h : px "java/lang/IndexOutOfBoundsException" M) : w_X11_needWitness_18 E D post px  M := by
  show Z E jX11_needWitness D 1 (zQv post px) 18 0 [zU, zU] [] M
  exact z_throwW zt_X11_418_420 dX11_needWitness_18 dX11_needWitness_21 dX11_needWitness_22 dX11_needWitness_25 dX11_needWitness_28 (Nat.le_of_ble_eq_true rfl) (by decide) h
theorem e_X11_needTwo {E : zEv} {D : Nat} {post : zM → Prop} {px : String → zM → Prop} {M : zM} {x1 : Int32} {x2 : Int32}  (h : zCv E jX11_needWitness D 1 [.ref 19, .int x1] M (fun M1 => zCv E jX11_needWitness D 1 [.ref 19, .int x2] M1 (fun M3 => ((¬ x1 = x2 → post M3) ∧ (x1 = x2 → px "java/lang/IllegalArgumentException" M3))) px) px) : zCv E jX11_needTwo (D + 1) 3 [.ref 19, .int x1, .int x2] M post px := by
  refine z_meth (by decide) (Nat.le_of_ble_eq_true rfl) ?_
  show Z E jX11_needTwo (D + 1) 3 (zQv post px) 0 0 [.ref 19, .int x1, .int x2] [] M
  refine z_aload_n dX11_needTwo_0 rfl ?_
  refine z_iload_n dX11_needTwo_1 rfl ?_
  refine z_callVv (As := [.int x1]) (st := []) dX11_needTwo_2 zi_X11_136 rfl rfl zs_19 rfl rfl (Nat.le_of_ble_eq_true rfl) (by decide) (fun _ _ hx => hx) h ?_
  intro M1 h2
  refine z_aload_n dX11_needTwo_5 rfl ?_
  refine z_iload_n dX11_needTwo_6 rfl ?_
  refine z_callVv (As := [.int x2]) (st := []) dX11_needTwo_7 zi_X11_136 rfl rfl zs_19 rfl rfl (Nat.le_of_ble_eq_true rfl) (by decide) (fun _ _ hx => hx) h2 ?_
  intro M3 h4
  refine z_iload_n dX11_needTwo_10 rfl ?_
  refine z_iload_n dX11_needTwo_11 rfl ?_
  refine z_icmp_ne (tgt := 26) dX11_needTwo_12 (by decide) (fun g5 => ?_) (fun g5 => ?_)
  · have h6 := h4.1 g5
    exact z_vret dX11_needTwo_26 rfl (by decide) h6
  · have h7 := h4.2 g5
    exact z_throwW zt_X11_106_423 dX11_needTwo_15 dX11_needTwo_18 dX11_needTwo_19 dX11_needTwo_22 dX11_needTwo_25 (Nat.le_of_ble_eq_true rfl) (by decide) h7
def w_X11_needThing_15 (E : zEv) (D : Nat) (post : zM → Prop) (px : String → zM → Prop)   (M : zM) : Prop := Z E jX11_needThing D 1 (zQv post px) 15 0 [zU, zU] [] M
theorem e_X11_needThing {E : zEv} {D : Nat} {post : zM → Prop} {px : String → zM → Prop} {M : zM} {x1 : Int32}  (h : ((x1 < 0 → w_X11_needThing_15 E D post px  M) ∧ (¬ x1 < 0 → ((x1 < (M.1 61 6) → post M) ∧ (¬ x1 < (M.1 61 6) → w_X11_needThing_15 E D post px  M))))) : zCv E jX11_needThing D 1 [.ref 19, .int x1] M post px := by
  refine z_meth (by decide) (Nat.le_of_ble_eq_true rfl) ?_
  show Z E jX11_needThing D 1 (zQv post px) 0 0 [.ref 19, .int x1] [] M
  refine z_iload_n dX11_needThing_0 rfl ?_
  refine z_if_lt (tgt := 15) dX11_needThing_1 (by decide) (fun g1 => ?_) (fun g1 => ?_)
  · have h2 := h.1 g1
    refine z_weak [false, false] (ls' := [zU, zU]) rfl rfl ?_
    exact h2
  · have h3 := h.2 g1
    refine z_iload_n dX11_needThing_4 rfl ?_
    refine z_aload_n dX11_needThing_5 rfl ?_
    refine z_getR dX11_needThing_6 zg_X11_29 zs_19 rfl ?_
    refine z_getI dX11_needThing_9 zg_X11_384 zs_61 rfl ?_
    refine z_icmp_lt (tgt := 26) dX11_needThing_12 (by decide) (fun g4 => ?_) (fun g4 => ?_)
    · have h5 := h3.1 g4
      exact z_vret dX11_needThing_26 rfl (by decide) h5
    · have h6 := h3.2 g4
      refine z_weak [false, false] (ls' := [zU, zU]) rfl rfl ?_
      exact h6
theorem t_X11_needThing_15 {E : zEv} {D : Nat} {post : zM → Prop} {px : String → zM → Prop} {M : zM}    (h : px "java/lang/IndexOutOfBoundsException" M) : w_X11_needThing_15 E D post px  M := by
  show Z E jX11_needThing D 1 (zQv post px) 15 0 [zU, zU] [] M
  exact z_throwW zt_X11_418_425 dX11_needThing_15 dX11_needThing_18 dX11_needThing_19 dX11_needThing_22 dX11_needThing_25 (Nat.le_of_ble_eq_true rfl) (by decide) h
def w_X11_needQuestion_15 (E : zEv) (D : Nat) (post : zM → Prop) (px : String → zM → Prop)   (M : zM) : Prop := Z E jX11_needQuestion D 1 (zQv post px) 15 0 [zU, zU] [] M
theorem e_X11_needQuestion {E : zEv} {D : Nat} {post : zM → Prop} {px : String → zM → Prop} {M : zM} {x1 : Int32}  (h : ((x1 < 0 → w_X11_needQuestion_15 E D post px  M) ∧ (¬ x1 < 0 → ((x1 < (M.1 61 7) → post M) ∧ (¬ x1 < (M.1 61 7) → w_X11_needQuestion_15 E D post px  M))))) : zCv E jX11_needQuestion D 1 [.ref 19, .int x1] M post px := by
  refine z_meth (by decide) (Nat.le_of_ble_eq_true rfl) ?_
  show Z E jX11_needQuestion D 1 (zQv post px) 0 0 [.ref 19, .int x1] [] M
  refine z_iload_n dX11_needQuestion_0 rfl ?_
  refine z_if_lt (tgt := 15) dX11_needQuestion_1 (by decide) (fun g1 => ?_) (fun g1 => ?_)
  · have h2 := h.1 g1
    refine z_weak [false, false] (ls' := [zU, zU]) rfl rfl ?_
    exact h2
  · have h3 := h.2 g1
    refine z_iload_n dX11_needQuestion_4 rfl ?_
    refine z_aload_n dX11_needQuestion_5 rfl ?_
    refine z_getR dX11_needQuestion_6 zg_X11_29 zs_19 rfl ?_
    refine z_getI dX11_needQuestion_9 zg_X11_296 zs_61 rfl ?_
    refine z_icmp_lt (tgt := 26) dX11_needQuestion_12 (by decide) (fun g4 => ?_) (fun g4 => ?_)
    · have h5 := h3.1 g4
      exact z_vret dX11_needQuestion_26 rfl (by decide) h5
    · have h6 := h3.2 g4
      refine z_weak [false, false] (ls' := [zU, zU]) rfl rfl ?_
      exact h6
theorem t_X11_needQuestion_15 {E : zEv} {D : Nat} {post : zM → Prop} {px : String → zM → Prop} {M : zM}    (h : px "java/lang/IndexOutOfBoundsException" M) : w_X11_needQuestion_15 E D post px  M := by
  show Z E jX11_needQuestion D 1 (zQv post px) 15 0 [zU, zU] [] M
  exact z_throwW zt_X11_418_427 dX11_needQuestion_15 dX11_needQuestion_18 dX11_needQuestion_19 dX11_needQuestion_22 dX11_needQuestion_25 (Nat.le_of_ble_eq_true rfl) (by decide) h
def w_X11_needWoman_15 (E : zEv) (D : Nat) (post : zM → Prop) (px : String → zM → Prop)   (M : zM) : Prop := Z E jX11_needWoman D 1 (zQv post px) 15 0 [zU, zU] [] M
theorem e_X11_needWoman {E : zEv} {D : Nat} {post : zM → Prop} {px : String → zM → Prop} {M : zM} {x1 : Int32}  (h : ((x1 < 0 → w_X11_needWoman_15 E D post px  M) ∧ (¬ x1 < 0 → ((x1 < (M.1 61 8) → post M) ∧ (¬ x1 < (M.1 61 8) → w_X11_needWoman_15 E D post px  M))))) : zCv E jX11_needWoman D 1 [.ref 19, .int x1] M post px := by
  refine z_meth (by decide) (Nat.le_of_ble_eq_true rfl) ?_
  show Z E jX11_needWoman D 1 (zQv post px) 0 0 [.ref 19, .int x1] [] M
  refine z_iload_n dX11_needWoman_0 rfl ?_
  refine z_if_lt (tgt := 15) dX11_needWoman_1 (by decide) (fun g1 => ?_) (fun g1 => ?_)
  · have h2 := h.1 g1
    refine z_weak [false, false] (ls' := [zU, zU]) rfl rfl ?_
    exact h2
  · have h3 := h.2 g1
    refine z_iload_n dX11_needWoman_4 rfl ?_
    refine z_aload_n dX11_needWoman_5 rfl ?_
    refine z_getR dX11_needWoman_6 zg_X11_29 zs_19 rfl ?_
    refine z_getI dX11_needWoman_9 zg_X11_327 zs_61 rfl ?_
    refine z_icmp_lt (tgt := 26) dX11_needWoman_12 (by decide) (fun g4 => ?_) (fun g4 => ?_)
    · have h5 := h3.1 g4
      exact z_vret dX11_needWoman_26 rfl (by decide) h5
    · have h6 := h3.2 g4
      refine z_weak [false, false] (ls' := [zU, zU]) rfl rfl ?_
      exact h6
theorem t_X11_needWoman_15 {E : zEv} {D : Nat} {post : zM → Prop} {px : String → zM → Prop} {M : zM}    (h : px "java/lang/IndexOutOfBoundsException" M) : w_X11_needWoman_15 E D post px  M := by
  show Z E jX11_needWoman D 1 (zQv post px) 15 0 [zU, zU] [] M
  exact z_throwW zt_X11_418_429 dX11_needWoman_15 dX11_needWoman_18 dX11_needWoman_19 dX11_needWoman_22 dX11_needWoman_25 (Nat.le_of_ble_eq_true rfl) (by decide) h
def w_X11_needPlace_18 (E : zEv) (D : Nat) (post : zM → Prop) (px : String → zM → Prop)   (M : zM) : Prop := Z E jX11_needPlace D 1 (zQv post px) 18 0 [zU, zU] [] M
theorem e_X11_needPlace {E : zEv} {D : Nat} {post : zM → Prop} {px : String → zM → Prop} {M : zM} {x1 : Int32}  (h : ((x1 < 0 → w_X11_needPlace_18 E D post px  M) ∧ (¬ x1 < 0 → ((x1 < (M.1 62 6) → post M) ∧ (¬ x1 < (M.1 62 6) → w_X11_needPlace_18 E D post px  M))))) : zCv E jX11_needPlace D 1 [.ref 19, .int x1] M post px := by
  refine z_meth (by decide) (Nat.le_of_ble_eq_true rfl) ?_
  show Z E jX11_needPlace D 1 (zQv post px) 0 0 [.ref 19, .int x1] [] M
  refine z_iload_n dX11_needPlace_0 rfl ?_
  refine z_if_lt (tgt := 18) dX11_needPlace_1 (by decide) (fun g1 => ?_) (fun g1 => ?_)
  · have h2 := h.1 g1
    refine z_weak [false, false] (ls' := [zU, zU]) rfl rfl ?_
    exact h2
  · have h3 := h.2 g1
    refine z_iload_n dX11_needPlace_4 rfl ?_
    refine z_aload_n dX11_needPlace_5 rfl ?_
    refine z_getR dX11_needPlace_6 zg_X11_29 zs_19 rfl ?_
    refine z_getR dX11_needPlace_9 zg_X11_139 zs_61 rfl ?_
    refine z_getI dX11_needPlace_12 zg_X11_263 zs_62 rfl ?_
    refine z_icmp_lt (tgt := 29) dX11_needPlace_15 (by decide) (fun g4 => ?_) (fun g4 => ?_)
    · have h5 := h3.1 g4
      exact z_vret dX11_needPlace_29 rfl (by decide) h5
    · have h6 := h3.2 g4
      refine z_weak [false, false] (ls' := [zU, zU]) rfl rfl ?_
      exact h6
theorem t_X11_needPlace_18 {E : zEv} {D : Nat} {post : zM → Prop} {px : String → zM → Prop} {M : zM}    (h : px "java/lang/IndexOutOfBoundsException" M) : w_X11_needPlace_18 E D post px  M := by
  show Z E jX11_needPlace D 1 (zQv post px) 18 0 [zU, zU] [] M
  exact z_throwW zt_X11_418_431 dX11_needPlace_18 dX11_needPlace_21 dX11_needPlace_22 dX11_needPlace_25 dX11_needPlace_28 (Nat.le_of_ble_eq_true rfl) (by decide) h
def w_X11_needAhead_10 (E : zEv) (D : Nat) (post : zM → Prop) (px : String → zM → Prop)   (M : zM) : Prop := Z E jX11_needAhead D 1 (zQv post px) 10 0 [zU, zU] [] M
theorem e_X11_needAhead {E : zEv} {D : Nat} {post : zM → Prop} {px : String → zM → Prop} {M : zM} {x1 : Int32}  (h : ((x1 < 0 → w_X11_needAhead_10 E D post px  M) ∧ (¬ x1 < 0 → ((x1 ≤ (60 : Int32) → post M) ∧ (¬ x1 ≤ (60 : Int32) → w_X11_needAhead_10 E D post px  M))))) : zCv E jX11_needAhead D 1 [.ref 19, .int x1] M post px := by
  refine z_meth (by decide) (Nat.le_of_ble_eq_true rfl) ?_
  show Z E jX11_needAhead D 1 (zQv post px) 0 0 [.ref 19, .int x1] [] M
  refine z_iload_n dX11_needAhead_0 rfl ?_
  refine z_if_lt (tgt := 10) dX11_needAhead_1 (by decide) (fun g1 => ?_) (fun g1 => ?_)
  · have h2 := h.1 g1
    refine z_weak [false, false] (ls' := [zU, zU]) rfl rfl ?_
    exact h2
  · have h3 := h.2 g1
    refine z_iload_n dX11_needAhead_4 rfl ?_
    refine z_bipush (v := (60 : Int32)) dX11_needAhead_5 rfl ?_
    refine z_icmp_le (tgt := 20) dX11_needAhead_7 (by decide) (fun g4 => ?_) (fun g4 => ?_)
    · have h5 := h3.1 g4
      exact z_vret dX11_needAhead_20 rfl (by decide) h5
    · have h6 := h3.2 g4
      refine z_weak [false, false] (ls' := [zU, zU]) rfl rfl ?_
      exact h6
theorem t_X11_needAhead_10 {E : zEv} {D : Nat} {post : zM → Prop} {px : String → zM → Prop} {M : zM}    (h : px "java/lang/IllegalArgumentException" M) : w_X11_needAhead_10 E D post px  M := by
  show Z E jX11_needAhead D 1 (zQv post px) 10 0 [zU, zU] [] M
  exact z_throw zt_X11_106_219 dX11_needAhead_10 dX11_needAhead_13 dX11_needAhead_14 dX11_needAhead_16 dX11_needAhead_19 (Nat.le_of_ble_eq_true rfl) (by decide) h
def w_X11_needRows_21 (E : zEv) (D : Nat) (post : Int32 → zM → Prop) (px : String → zM → Prop)  (y2 : Int32) (y3 : Int32) (y4 : Int32) (y5 : Int32) (M : zM) : Prop := Z E jX11_needRows (D + 1) 1 (zQi post px) 21 0 [.ref 19, zU, .int y2, .int y3, .int y4, .int y5, zU, zU] [] M
def w_X11_needRows_22 (E : zEv) (D : Nat) (post : Int32 → zM → Prop) (px : String → zM → Prop)  (y2 : Int32) (y3 : Int32) (y4 : Int32) (y5 : Int32) (s0 : Int32) (M : zM) : Prop := Z E jX11_needRows (D + 1) 1 (zQi post px) 22 0 [.ref 19, zU, .int y2, .int y3, .int y4, .int y5, zU, zU] [.int s0] M
def w_X11_needRows_27 (E : zEv) (D : Nat) (post : Int32 → zM → Prop) (px : String → zM → Prop)  (y2 : Int32) (y3 : Int32) (y4 : Int32) (y5 : Int32) (y6 : Int32) (y7 : Int32) (M : zM) : Prop := Z E jX11_needRows (D + 1) 1 (zQi post px) 27 0 [.ref 19, zU, .int y2, .int y3, .int y4, .int y5, .int y6, .int y7] [] M
def w_X11_needRows_95 (E : zEv) (D : Nat) (post : Int32 → zM → Prop) (px : String → zM → Prop)  (y5 : Int32) (y6 : Int32) (M : zM) : Prop := Z E jX11_needRows (D + 1) 1 (zQi post px) 95 0 [zU, zU, zU, zU, zU, .int y5, .int y6, zU] [] M
def w_X11_needRows_86 (E : zEv) (D : Nat) (post : Int32 → zM → Prop) (px : String → zM → Prop)  (y2 : Int32) (y3 : Int32) (y4 : Int32) (y5 : Int32) (y7 : Int32) (M : zM) : Prop := Z E jX11_needRows (D + 1) 1 (zQi post px) 86 0 [.ref 19, zU, .int y2, .int y3, .int y4, .int y5, zU, .int y7] [] M
def w_X11_needRows_87 (E : zEv) (D : Nat) (post : Int32 → zM → Prop) (px : String → zM → Prop)  (y2 : Int32) (y3 : Int32) (y4 : Int32) (y5 : Int32) (y7 : Int32) (s0 : Int32) (M : zM) : Prop := Z E jX11_needRows (D + 1) 1 (zQi post px) 87 0 [.ref 19, zU, .int y2, .int y3, .int y4, .int y5, zU, .int y7] [.int s0] M
theorem e_X11_needRows {E : zEv} {D : Nat} {post : Int32 → zM → Prop} {px : String → zM → Prop} {M : zM} {x1 : Int32} {x2 : Int32} {x3 : Int32} {x4 : Int32}  (h : ((¬ (zrem x1 (3 : Int32)) = 0 → w_X11_needRows_21 E D post px x2 x3 x4 (x1 / (3 : Int32)) M) ∧ ((zrem x1 (3 : Int32)) = 0 → (((45 : Int32) < x1 → w_X11_needRows_21 E D post px x2 x3 x4 (x1 / (3 : Int32)) M) ∧ (¬ (45 : Int32) < x1 → w_X11_needRows_22 E D post px x2 x3 x4 (x1 / (3 : Int32)) (1 : Int32) M))))) : zCi E jX11_needRows (D + 1) 1 [.ref 19, .int x1, .int x2, .int x3, .int x4] M post px := by
  refine z_meth (by decide) (Nat.le_of_ble_eq_true rfl) ?_
  show Z E jX11_needRows (D + 1) 1 (zQi post px) 0 0 [.ref 19, .int x1, .int x2, .int x3, .int x4, zU, zU, zU] [] M
  refine z_iload_n dX11_needRows_0 rfl ?_
  refine z_iconst (v := (3 : Int32)) dX11_needRows_1 rfl ?_
  refine z_idiv dX11_needRows_2 (by decide) ?_
  refine z_istore dX11_needRows_3 (by decide) (ls' := [.ref 19, .int x1, .int x2, .int x3, .int x4, .int (x1 / (3 : Int32)), zU, zU]) rfl ?_
  refine z_iload_n dX11_needRows_5 rfl ?_
  refine z_iconst (v := (3 : Int32)) dX11_needRows_6 rfl ?_
  refine z_irem dX11_needRows_7 (by decide) ?_
  refine z_if_ne (tgt := 21) dX11_needRows_8 (by decide) (fun g1 => ?_) (fun g1 => ?_)
  · have h2 := h.1 g1
    refine z_weak [true, false, true, true, true, true, false, false] (ls' := [.ref 19, zU, .int x2, .int x3, .int x4, .int (x1 / (3 : Int32)), zU, zU]) rfl rfl ?_
    exact h2
  · have h3 := h.2 g1
    refine z_iload_n dX11_needRows_11 rfl ?_
    refine z_bipush (v := (45 : Int32)) dX11_needRows_12 rfl ?_
    refine z_icmp_gt (tgt := 21) dX11_needRows_14 (by decide) (fun g4 => ?_) (fun g4 => ?_)
    · have h5 := h3.1 g4
      refine z_weak [true, false, true, true, true, true, false, false] (ls' := [.ref 19, zU, .int x2, .int x3, .int x4, .int (x1 / (3 : Int32)), zU, zU]) rfl rfl ?_
      exact h5
    · have h6 := h3.2 g4
      refine z_iconst (v := (1 : Int32)) dX11_needRows_17 rfl ?_
      refine z_goto (tgt := 22) dX11_needRows_18 (by decide) ?_
      refine z_weak [true, false, true, true, true, true, false, false] (ls' := [.ref 19, zU, .int x2, .int x3, .int x4, .int (x1 / (3 : Int32)), zU, zU]) rfl rfl ?_
      exact h6
theorem t_X11_needRows_21 {E : zEv} {D : Nat} {post : Int32 → zM → Prop} {px : String → zM → Prop} {M : zM}   {y2 : Int32} {y3 : Int32} {y4 : Int32} {y5 : Int32} (h : w_X11_needRows_22 E D post px y2 y3 y4 y5 (0 : Int32) M) : w_X11_needRows_21 E D post px y2 y3 y4 y5 M := by
  show Z E jX11_needRows (D + 1) 1 (zQi post px) 21 0 [.ref 19, zU, .int y2, .int y3, .int y4, .int y5, zU, zU] [] M
  refine z_iconst (v := (0 : Int32)) dX11_needRows_21 rfl ?_
  exact h
theorem t_X11_needRows_22 {E : zEv} {D : Nat} {post : Int32 → zM → Prop} {px : String → zM → Prop} {M : zM}   {y2 : Int32} {y3 : Int32} {y4 : Int32} {y5 : Int32} {s0 : Int32} (h : w_X11_needRows_27 E D post px y2 y3 y4 y5 s0 (0 : Int32) M) : w_X11_needRows_22 E D post px y2 y3 y4 y5 s0 M := by
  show Z E jX11_needRows (D + 1) 1 (zQi post px) 22 0 [.ref 19, zU, .int y2, .int y3, .int y4, .int y5, zU, zU] [.int s0] M
  refine z_istore dX11_needRows_22 (by decide) (ls' := [.ref 19, zU, .int y2, .int y3, .int y4, .int y5, .int s0, zU]) rfl ?_
  refine z_iconst (v := (0 : Int32)) dX11_needRows_24 rfl ?_
  refine z_istore dX11_needRows_25 (by decide) (ls' := [.ref 19, zU, .int y2, .int y3, .int y4, .int y5, .int s0, .int (0 : Int32)]) rfl ?_
  exact h
theorem t_X11_needRows_27 {E : zEv} {D : Nat} {post : Int32 → zM → Prop} {px : String → zM → Prop} {M : zM}   {y2 : Int32} {y3 : Int32} {y4 : Int32} {y5 : Int32} {y6 : Int32} {y7 : Int32} (h : ((y5 ≤ y7 → w_X11_needRows_95 E D post px y5 y6 M) ∧ (¬ y5 ≤ y7 → ((y6 = 0 → w_X11_needRows_95 E D post px y5 y6 M) ∧ (¬ y6 = 0 → zCi E jX9_told D 0 [.ref 20, .int y7, .int (0 : Int32)] M (fun r9 M7 => ((y2 ≤ r9 → w_X11_needRows_86 E D post px y2 y3 y4 y5 y7 M7) ∧ (¬ y2 ≤ r9 → zCi E jX9_told D 0 [.ref 20, .int y7, .int (1 : Int32)] M7 (fun r15 M13 => ((y3 ≤ r15 → w_X11_needRows_86 E D post px y2 y3 y4 y5 y7 M13) ∧ (¬ y3 ≤ r15 → zCi E jX9_told D 0 [.ref 20, .int y7, .int (2 : Int32)] M13 (fun r21 M19 => ((y4 < r21 → w_X11_needRows_86 E D post px y2 y3 y4 y5 y7 M19) ∧ (¬ y4 < r21 → w_X11_needRows_87 E D post px y2 y3 y4 y5 y7 (1 : Int32) M19))) px))) px))) px))))) : w_X11_needRows_27 E D post px y2 y3 y4 y5 y6 y7 M := by
  show Z E jX11_needRows (D + 1) 1 (zQi post px) 27 0 [.ref 19, zU, .int y2, .int y3, .int y4, .int y5, .int y6, .int y7] [] M
  refine z_iload dX11_needRows_27 rfl ?_
  refine z_iload dX11_needRows_29 rfl ?_
  refine z_icmp_ge (tgt := 95) dX11_needRows_31 (by decide) (fun g1 => ?_) (fun g1 => ?_)
  · have h2 := h.1 g1
    refine z_weak [false, false, false, false, false, true, true, false] (ls' := [zU, zU, zU, zU, zU, .int y5, .int y6, zU]) rfl rfl ?_
    exact h2
  · have h3 := h.2 g1
    refine z_iload dX11_needRows_34 rfl ?_
    refine z_if_eq (tgt := 95) dX11_needRows_36 (by decide) (fun g4 => ?_) (fun g4 => ?_)
    · have h5 := h3.1 g4
      refine z_weak [false, false, false, false, false, true, true, false] (ls' := [zU, zU, zU, zU, zU, .int y5, .int y6, zU]) rfl rfl ?_
      exact h5
    · have h6 := h3.2 g4
      refine z_aload_n dX11_needRows_39 rfl ?_
      refine z_getR dX11_needRows_40 zg_X11_10 zs_19 rfl ?_
      refine z_iload dX11_needRows_43 rfl ?_
      refine z_iconst (v := (0 : Int32)) dX11_needRows_45 rfl ?_
      refine z_callVi (As := [.int y7, .int (0 : Int32)]) (st := []) dX11_needRows_46 zi_X11_433 rfl rfl zs_20 rfl rfl (Nat.le_of_ble_eq_true rfl) (by decide) (fun _ _ hx => hx) h6 ?_
      intro r9 M7 h8
      refine z_iload_n dX11_needRows_49 rfl ?_
      refine z_icmp_ge (tgt := 86) dX11_needRows_50 (by decide) (fun g10 => ?_) (fun g10 => ?_)
      · have h11 := h8.1 g10
        refine z_weak [true, false, true, true, true, true, false, true] (ls' := [.ref 19, zU, .int y2, .int y3, .int y4, .int y5, zU, .int y7]) rfl rfl ?_
        exact h11
      · have h12 := h8.2 g10
        refine z_aload_n dX11_needRows_53 rfl ?_
        refine z_getR dX11_needRows_54 zg_X11_10 zs_19 rfl ?_
        refine z_iload dX11_needRows_57 rfl ?_
        refine z_iconst (v := (1 : Int32)) dX11_needRows_59 rfl ?_
        refine z_callVi (As := [.int y7, .int (1 : Int32)]) (st := []) dX11_needRows_60 zi_X11_433 rfl rfl zs_20 rfl rfl (Nat.le_of_ble_eq_true rfl) (by decide) (fun _ _ hx => hx) h12 ?_
        intro r15 M13 h14
        refine z_iload_n dX11_needRows_63 rfl ?_
        refine z_icmp_ge (tgt := 86) dX11_needRows_64 (by decide) (fun g16 => ?_) (fun g16 => ?_)
        · have h17 := h14.1 g16
          refine z_weak [true, false, true, true, true, true, false, true] (ls' := [.ref 19, zU, .int y2, .int y3, .int y4, .int y5, zU, .int y7]) rfl rfl ?_
          exact h17
        · have h18 := h14.2 g16
          refine z_aload_n dX11_needRows_67 rfl ?_
          refine z_getR dX11_needRows_68 zg_X11_10 zs_19 rfl ?_
          refine z_iload dX11_needRows_71 rfl ?_
          refine z_iconst (v := (2 : Int32)) dX11_needRows_73 rfl ?_
          refine z_callVi (As := [.int y7, .int (2 : Int32)]) (st := []) dX11_needRows_74 zi_X11_433 rfl rfl zs_20 rfl rfl (Nat.le_of_ble_eq_true rfl) (by decide) (fun _ _ hx => hx) h18 ?_
          intro r21 M19 h20
          refine z_iload dX11_needRows_77 rfl ?_
          refine z_icmp_gt (tgt := 86) dX11_needRows_79 (by decide) (fun g22 => ?_) (fun g22 => ?_)
          · have h23 := h20.1 g22
            refine z_weak [true, false, true, true, true, true, false, true] (ls' := [.ref 19, zU, .int y2, .int y3, .int y4, .int y5, zU, .int y7]) rfl rfl ?_
            exact h23
          · have h24 := h20.2 g22
            refine z_iconst (v := (1 : Int32)) dX11_needRows_82 rfl ?_
            refine z_goto (tgt := 87) dX11_needRows_83 (by decide) ?_
            refine z_weak [true, false, true, true, true, true, false, true] (ls' := [.ref 19, zU, .int y2, .int y3, .int y4, .int y5, zU, .int y7]) rfl rfl ?_
            exact h24
theorem t_X11_needRows_95 {E : zEv} {D : Nat} {post : Int32 → zM → Prop} {px : String → zM → Prop} {M : zM}   {y5 : Int32} {y6 : Int32} (h : ((¬ y6 = 0 → post y5 M) ∧ (y6 = 0 → px "java/lang/IllegalArgumentException" M))) : w_X11_needRows_95 E D post px y5 y6 M := by
  show Z E jX11_needRows (D + 1) 1 (zQi post px) 95 0 [zU, zU, zU, zU, zU, .int y5, .int y6, zU] [] M
  refine z_iload dX11_needRows_95 rfl ?_
  refine z_if_ne (tgt := 111) dX11_needRows_97 (by decide) (fun g1 => ?_) (fun g1 => ?_)
  · have h2 := h.1 g1
    refine z_iload dX11_needRows_111 rfl ?_
    exact z_iret dX11_needRows_113 rfl rfl (by decide) h2
  · have h3 := h.2 g1
    exact z_throwW zt_X11_106_436 dX11_needRows_100 dX11_needRows_103 dX11_needRows_104 dX11_needRows_107 dX11_needRows_110 (Nat.le_of_ble_eq_true rfl) (by decide) h3
theorem t_X11_needRows_86 {E : zEv} {D : Nat} {post : Int32 → zM → Prop} {px : String → zM → Prop} {M : zM}   {y2 : Int32} {y3 : Int32} {y4 : Int32} {y5 : Int32} {y7 : Int32} (h : w_X11_needRows_87 E D post px y2 y3 y4 y5 y7 (0 : Int32) M) : w_X11_needRows_86 E D post px y2 y3 y4 y5 y7 M := by
  show Z E jX11_needRows (D + 1) 1 (zQi post px) 86 0 [.ref 19, zU, .int y2, .int y3, .int y4, .int y5, zU, .int y7] [] M
  refine z_iconst (v := (0 : Int32)) dX11_needRows_86 rfl ?_
  exact h
theorem t_X11_needRows_87 {E : zEv} {D : Nat} {post : Int32 → zM → Prop} {px : String → zM → Prop} {M : zM}   {y2 : Int32} {y3 : Int32} {y4 : Int32} {y5 : Int32} {y7 : Int32} {s0 : Int32} (h : w_X11_needRows_27 E D post px y2 y3 y4 y5 s0 (y7 + (1 : Int32)) M) : w_X11_needRows_87 E D post px y2 y3 y4 y5 y7 s0 M := by
  show Z E jX11_needRows (D + 1) 1 (zQi post px) 87 0 [.ref 19, zU, .int y2, .int y3, .int y4, .int y5, zU, .int y7] [.int s0] M
  refine z_istore dX11_needRows_87 (by decide) (ls' := [.ref 19, zU, .int y2, .int y3, .int y4, .int y5, .int s0, .int y7]) rfl ?_
  refine z_iinc dX11_needRows_89 rfl (by decide) (ls' := [.ref 19, zU, .int y2, .int y3, .int y4, .int y5, .int s0, .int (y7 + (1 : Int32))]) rfl ?_
  refine z_goto (tgt := 27) dX11_needRows_92 (by decide) ?_
  exact h
theorem e_X11_fittingWorlds {E : zEv} {D : Nat} {post : Int64 → zM → Prop} {px : String → zM → Prop} {M : zM}   (h : zCi E jX9_useUp D 0 [.ref 20] M (fun r3 M1 => zCi E jX11_needRows D 1 [.ref 19, .int r3, .int (M1.1 61 7), .int (M1.1 62 6), .int (255 : Int32)] M1 (fun r6 M4 => zCl E jX10_fitting D 0 [.ref 48, .ref 43, .ref 61, .ref 20, .int r6] M4 (fun r9 M7 => post r9 M7) px) px) px) : zCl E jX11_fittingWorlds (D + 1) 1 [.ref 19] M post px := by
  refine z_meth (by decide) (Nat.le_of_ble_eq_true rfl) ?_
  show Z E jX11_fittingWorlds (D + 1) 1 (zQl post px) 0 0 [.ref 19, zU] [] M
  refine z_aload_n dX11_fittingWorlds_0 rfl ?_
  refine z_aload_n dX11_fittingWorlds_1 rfl ?_
  refine z_getR dX11_fittingWorlds_2 zg_X11_10 zs_19 rfl ?_
  refine z_callVi (As := []) (st := [.ref 19]) dX11_fittingWorlds_5 zi_X11_102 rfl rfl zs_20 rfl rfl (Nat.le_of_ble_eq_true rfl) (by decide) (fun _ _ hx => hx) h ?_
  intro r3 M1 h2
  refine z_aload_n dX11_fittingWorlds_8 rfl ?_
  refine z_getR dX11_fittingWorlds_9 zg_X11_29 zs_19 rfl ?_
  refine z_getI dX11_fittingWorlds_12 zg_X11_296 zs_61 rfl ?_
  refine z_aload_n dX11_fittingWorlds_15 rfl ?_
  refine z_getR dX11_fittingWorlds_16 zg_X11_29 zs_19 rfl ?_
  refine z_getR dX11_fittingWorlds_19 zg_X11_139 zs_61 rfl ?_
  refine z_getI dX11_fittingWorlds_22 zg_X11_263 zs_62 rfl ?_
  refine z_sipush (v := (255 : Int32)) dX11_fittingWorlds_25 rfl ?_
  refine z_callVi (As := [.int r3, .int (M1.1 61 7), .int (M1.1 62 6), .int (255 : Int32)]) (st := []) dX11_fittingWorlds_28 zi_X11_330 rfl rfl zs_19 rfl rfl (Nat.le_of_ble_eq_true rfl) (by decide) (fun _ _ hx => hx) h2 ?_
  intro r6 M4 h5
  refine z_istore_n dX11_fittingWorlds_31 (by decide) (ls' := [.ref 19, .int r6]) rfl ?_
  refine z_aload_n dX11_fittingWorlds_32 rfl ?_
  refine z_getR dX11_fittingWorlds_33 zg_X11_56 zs_19 rfl ?_
  refine z_aload_n dX11_fittingWorlds_36 rfl ?_
  refine z_getR dX11_fittingWorlds_37 zg_X11_49 zs_19 rfl ?_
  refine z_aload_n dX11_fittingWorlds_40 rfl ?_
  refine z_getR dX11_fittingWorlds_41 zg_X11_29 zs_19 rfl ?_
  refine z_aload_n dX11_fittingWorlds_44 rfl ?_
  refine z_getR dX11_fittingWorlds_45 zg_X11_10 zs_19 rfl ?_
  refine z_iload_n dX11_fittingWorlds_48 rfl ?_
  refine z_callVl (As := [.ref 43, .ref 61, .ref 20, .int r6]) (st := []) dX11_fittingWorlds_49 zi_X11_438 rfl rfl zs_48 rfl rfl (Nat.le_of_ble_eq_true rfl) (by decide) (fun _ _ hx => hx) h5 ?_
  intro r9 M7 h8
  exact z_lret dX11_fittingWorlds_52 rfl (by decide) h8
def w_X11_shareOf_36 (E : zEv) (D : Nat) (post : Int32 → zM → Prop) (px : String → zM → Prop)  (s0 : Int32) (M : zM) : Prop := Z E jX11_shareOf (D + 1) 0 (zQi post px) 36 0 [zU, zU, zU] [.int s0] M
theorem e_X11_shareOf {E : zEv} {D : Nat} {post : Int32 → zM → Prop} {px : String → zM → Prop} {M : zM} {x1 : Int32}  (h : zCi E jX8_allShades D 0 [.ref 62] M (fun r3 M1 => ((¬ r3 = 0 → vp_in x1 5 ∧ ¬ r3 = 0 ∧ w_X11_shareOf_36 E D post px (((M1.1 66 (x1).toNatClampNeg) * (100 : Int32)) / r3) M1) ∧ (r3 = 0 → w_X11_shareOf_36 E D post px (0 : Int32) M1))) px) : zCi E jX11_shareOf (D + 1) 0 [.ref 19, .int x1] M post px := by
  refine z_meth (by decide) (Nat.le_of_ble_eq_true rfl) ?_
  show Z E jX11_shareOf (D + 1) 0 (zQi post px) 0 0 [.ref 19, .int x1, zU] [] M
  refine z_aload_n dX11_shareOf_0 rfl ?_
  refine z_getR dX11_shareOf_1 zg_X11_29 zs_19 rfl ?_
  refine z_getR dX11_shareOf_4 zg_X11_139 zs_61 rfl ?_
  refine z_callVi (As := []) (st := []) dX11_shareOf_7 zi_X11_277 rfl rfl zs_62 rfl rfl (Nat.le_of_ble_eq_true rfl) (by decide) (fun _ _ hx => hx) h ?_
  intro r3 M1 h2
  refine z_istore_n dX11_shareOf_10 (by decide) (ls' := [.ref 19, .int x1, .int r3]) rfl ?_
  refine z_iload_n dX11_shareOf_11 rfl ?_
  refine z_if_ne (tgt := 19) dX11_shareOf_12 (by decide) (fun g4 => ?_) (fun g4 => ?_)
  · have h5 := h2.1 g4
    refine z_aload_n dX11_shareOf_19 rfl ?_
    refine z_getR dX11_shareOf_20 zg_X11_29 zs_19 rfl ?_
    refine z_getR dX11_shareOf_23 zg_X11_139 zs_61 rfl ?_
    refine z_getR dX11_shareOf_26 zg_X11_155 zs_62 rfl ?_
    refine z_iload_n dX11_shareOf_29 rfl ?_
    obtain ⟨g8, h7⟩ := h5
    refine z_iald dX11_shareOf_30 zs_66 g8 ?_
    refine z_bipush (v := (100 : Int32)) dX11_shareOf_31 rfl ?_
    refine z_imul dX11_shareOf_33 ?_
    refine z_iload_n dX11_shareOf_34 rfl ?_
    obtain ⟨g10, h9⟩ := h7
    refine z_idiv dX11_shareOf_35 g10 ?_
    refine z_weak [false, false, false] (ls' := [zU, zU, zU]) rfl rfl ?_
    exact h9
  · have h6 := h2.2 g4
    refine z_iconst (v := (0 : Int32)) dX11_shareOf_15 rfl ?_
    refine z_goto (tgt := 36) dX11_shareOf_16 (by decide) ?_
    refine z_weak [false, false, false] (ls' := [zU, zU, zU]) rfl rfl ?_
    exact h6
theorem t_X11_shareOf_36 {E : zEv} {D : Nat} {post : Int32 → zM → Prop} {px : String → zM → Prop} {M : zM}   {s0 : Int32} (h : post s0 M) : w_X11_shareOf_36 E D post px s0 M := by
  show Z E jX11_shareOf (D + 1) 0 (zQi post px) 36 0 [zU, zU, zU] [.int s0] M
  exact z_iret dX11_shareOf_36 rfl rfl (by decide) h
def w_X11_foundOut_4 (E : zEv) (D : Nat) (post : Int32 → zM → Prop) (px : String → zM → Prop)  (y1 : Int32) (y2 : Int32) (y3 : Int32) (M : zM) : Prop := Z E jX11_foundOut (D + 1) 0 (zQi post px) 4 0 [.ref 19, .int y1, .int y2, .int y3] [] M
def w_X11_foundOut_55 (E : zEv) (D : Nat) (post : Int32 → zM → Prop) (px : String → zM → Prop)  (y1 : Int32) (y2 : Int32) (y3 : Int32) (M : zM) : Prop := Z E jX11_foundOut (D + 1) 0 (zQi post px) 55 0 [.ref 19, .int y1, .int y2, .int y3] [] M
theorem e_X11_foundOut {E : zEv} {D : Nat} {post : Int32 → zM → Prop} {px : String → zM → Prop} {M : zM} {x1 : Int32}  (h : w_X11_foundOut_4 E D post px x1 (0 : Int32) (0 : Int32) M) : zCi E jX11_foundOut (D + 1) 0 [.ref 19, .int x1] M post px := by
  refine z_meth (by decide) (Nat.le_of_ble_eq_true rfl) ?_
  show Z E jX11_foundOut (D + 1) 0 (zQi post px) 0 0 [.ref 19, .int x1, zU, zU] [] M
  refine z_iconst (v := (0 : Int32)) dX11_foundOut_0 rfl ?_
  refine z_istore_n dX11_foundOut_1 (by decide) (ls' := [.ref 19, .int x1, .int (0 : Int32), zU]) rfl ?_
  refine z_iconst (v := (0 : Int32)) dX11_foundOut_2 rfl ?_
  refine z_istore_n dX11_foundOut_3 (by decide) (ls' := [.ref 19, .int x1, .int (0 : Int32), .int (0 : Int32)]) rfl ?_
  exact h
theorem t_X11_foundOut_4 {E : zEv} {D : Nat} {post : Int32 → zM → Prop} {px : String → zM → Prop} {M : zM}   {y1 : Int32} {y2 : Int32} {y3 : Int32} (h : (((M.1 61 7) ≤ y3 → post y2 M) ∧ (¬ (M.1 61 7) ≤ y3 → zCv E jX1_raise D 0 [.ref 43, .ref 61, .int y3, .int (M.1 61 10)] M (fun M4 => zCi E jX1_isFoundOut D 0 [.ref 43, .ref 61, .int y1] M4 (fun r8 M6 => ((r8 = 0 → w_X11_foundOut_55 E D post px y1 y2 y3 M6) ∧ (¬ r8 = 0 → w_X11_foundOut_55 E D post px y1 (y2 ||| ((1 : Int32) <<< (y3 &&& 31))) y3 M6))) px) px))) : w_X11_foundOut_4 E D post px y1 y2 y3 M := by
  show Z E jX11_foundOut (D + 1) 0 (zQi post px) 4 0 [.ref 19, .int y1, .int y2, .int y3] [] M
  refine z_iload_n dX11_foundOut_4 rfl ?_
  refine z_aload_n dX11_foundOut_5 rfl ?_
  refine z_getR dX11_foundOut_6 zg_X11_29 zs_19 rfl ?_
  refine z_getI dX11_foundOut_9 zg_X11_296 zs_61 rfl ?_
  refine z_icmp_ge (tgt := 61) dX11_foundOut_12 (by decide) (fun g1 => ?_) (fun g1 => ?_)
  · have h2 := h.1 g1
    refine z_iload_n dX11_foundOut_61 rfl ?_
    exact z_iret dX11_foundOut_62 rfl rfl (by decide) h2
  · have h3 := h.2 g1
    refine z_aload_n dX11_foundOut_15 rfl ?_
    refine z_getR dX11_foundOut_16 zg_X11_49 zs_19 rfl ?_
    refine z_aload_n dX11_foundOut_19 rfl ?_
    refine z_getR dX11_foundOut_20 zg_X11_29 zs_19 rfl ?_
    refine z_iload_n dX11_foundOut_23 rfl ?_
    refine z_aload_n dX11_foundOut_24 rfl ?_
    refine z_getR dX11_foundOut_25 zg_X11_29 zs_19 rfl ?_
    refine z_getI dX11_foundOut_28 zg_X11_189 zs_61 rfl ?_
    refine z_callVv (As := [.ref 61, .int y3, .int (M.1 61 10)]) (st := []) dX11_foundOut_31 zi_X11_256 rfl rfl zs_43 rfl rfl (Nat.le_of_ble_eq_true rfl) (by decide) (fun _ _ hx => hx) h3 ?_
    intro M4 h5
    refine z_aload_n dX11_foundOut_34 rfl ?_
    refine z_getR dX11_foundOut_35 zg_X11_49 zs_19 rfl ?_
    refine z_aload_n dX11_foundOut_38 rfl ?_
    refine z_getR dX11_foundOut_39 zg_X11_29 zs_19 rfl ?_
    refine z_iload_n dX11_foundOut_42 rfl ?_
    refine z_callVi (As := [.ref 61, .int y1]) (st := []) dX11_foundOut_43 zi_X11_352 rfl rfl zs_43 rfl rfl (Nat.le_of_ble_eq_true rfl) (by decide) (fun _ _ hx => hx) h5 ?_
    intro r8 M6 h7
    refine z_if_eq (tgt := 55) dX11_foundOut_46 (by decide) (fun g9 => ?_) (fun g9 => ?_)
    · have h10 := h7.1 g9
      exact h10
    · have h11 := h7.2 g9
      refine z_iload_n dX11_foundOut_49 rfl ?_
      refine z_iconst (v := (1 : Int32)) dX11_foundOut_50 rfl ?_
      refine z_iload_n dX11_foundOut_51 rfl ?_
      refine z_ishl dX11_foundOut_52 ?_
      refine z_ior dX11_foundOut_53 ?_
      refine z_istore_n dX11_foundOut_54 (by decide) (ls' := [.ref 19, .int y1, .int (y2 ||| ((1 : Int32) <<< (y3 &&& 31))), .int y3]) rfl ?_
      exact h11
theorem t_X11_foundOut_55 {E : zEv} {D : Nat} {post : Int32 → zM → Prop} {px : String → zM → Prop} {M : zM}   {y1 : Int32} {y2 : Int32} {y3 : Int32} (h : w_X11_foundOut_4 E D post px y1 y2 (y3 + (1 : Int32)) M) : w_X11_foundOut_55 E D post px y1 y2 y3 M := by
  show Z E jX11_foundOut (D + 1) 0 (zQi post px) 55 0 [.ref 19, .int y1, .int y2, .int y3] [] M
  refine z_iinc dX11_foundOut_55 rfl (by decide) (ls' := [.ref 19, .int y1, .int y2, .int (y3 + (1 : Int32))]) rfl ?_
  refine z_goto (tgt := 4) dX11_foundOut_58 (by decide) ?_
  exact h
def w_X11_touchedBy_4 (E : zEv) (D : Nat) (post : Int32 → zM → Prop) (px : String → zM → Prop)  (y1 : Int32) (y2 : Int32) (y3 : Int32) (M : zM) : Prop := Z E jX11_touchedBy (D + 1) 0 (zQi post px) 4 0 [.ref 19, .int y1, .int y2, .int y3] [] M
def w_X11_touchedBy_43 (E : zEv) (D : Nat) (post : Int32 → zM → Prop) (px : String → zM → Prop)  (y1 : Int32) (y2 : Int32) (y3 : Int32) (M : zM) : Prop := Z E jX11_touchedBy (D + 1) 0 (zQi post px) 43 0 [.ref 19, .int y1, .int y2, .int y3] [] M
theorem e_X11_touchedBy {E : zEv} {D : Nat} {post : Int32 → zM → Prop} {px : String → zM → Prop} {M : zM} {x1 : Int32}  (h : w_X11_touchedBy_4 E D post px x1 (0 : Int32) (0 : Int32) M) : zCi E jX11_touchedBy (D + 1) 0 [.ref 19, .int x1] M post px := by
  refine z_meth (by decide) (Nat.le_of_ble_eq_true rfl) ?_
  show Z E jX11_touchedBy (D + 1) 0 (zQi post px) 0 0 [.ref 19, .int x1, zU, zU] [] M
  refine z_iconst (v := (0 : Int32)) dX11_touchedBy_0 rfl ?_
  refine z_istore_n dX11_touchedBy_1 (by decide) (ls' := [.ref 19, .int x1, .int (0 : Int32), zU]) rfl ?_
  refine z_iconst (v := (0 : Int32)) dX11_touchedBy_2 rfl ?_
  refine z_istore_n dX11_touchedBy_3 (by decide) (ls' := [.ref 19, .int x1, .int (0 : Int32), .int (0 : Int32)]) rfl ?_
  exact h
theorem t_X11_touchedBy_4 {E : zEv} {D : Nat} {post : Int32 → zM → Prop} {px : String → zM → Prop} {M : zM}   {y1 : Int32} {y2 : Int32} {y3 : Int32} (h : (((M.1 62 6) ≤ y3 → post y2 M) ∧ (¬ (M.1 62 6) ≤ y3 → zCi E jX3_weighs D 0 [.ref 61, .int y1, .int y3, .int (M.1 61 10)] M (fun r6 M4 => ((r6 ≤ 0 → w_X11_touchedBy_43 E D post px y1 y2 y3 M4) ∧ (¬ r6 ≤ 0 → w_X11_touchedBy_43 E D post px y1 (y2 ||| ((1 : Int32) <<< (y3 &&& 31))) y3 M4))) px))) : w_X11_touchedBy_4 E D post px y1 y2 y3 M := by
  show Z E jX11_touchedBy (D + 1) 0 (zQi post px) 4 0 [.ref 19, .int y1, .int y2, .int y3] [] M
  refine z_iload_n dX11_touchedBy_4 rfl ?_
  refine z_aload_n dX11_touchedBy_5 rfl ?_
  refine z_getR dX11_touchedBy_6 zg_X11_29 zs_19 rfl ?_
  refine z_getR dX11_touchedBy_9 zg_X11_139 zs_61 rfl ?_
  refine z_getI dX11_touchedBy_12 zg_X11_263 zs_62 rfl ?_
  refine z_icmp_ge (tgt := 49) dX11_touchedBy_15 (by decide) (fun g1 => ?_) (fun g1 => ?_)
  · have h2 := h.1 g1
    refine z_iload_n dX11_touchedBy_49 rfl ?_
    exact z_iret dX11_touchedBy_50 rfl rfl (by decide) h2
  · have h3 := h.2 g1
    refine z_aload_n dX11_touchedBy_18 rfl ?_
    refine z_getR dX11_touchedBy_19 zg_X11_29 zs_19 rfl ?_
    refine z_iload_n dX11_touchedBy_22 rfl ?_
    refine z_iload_n dX11_touchedBy_23 rfl ?_
    refine z_aload_n dX11_touchedBy_24 rfl ?_
    refine z_getR dX11_touchedBy_25 zg_X11_29 zs_19 rfl ?_
    refine z_getI dX11_touchedBy_28 zg_X11_189 zs_61 rfl ?_
    refine z_callVi (As := [.int y1, .int y3, .int (M.1 61 10)]) (st := []) dX11_touchedBy_31 zi_X11_442 rfl rfl zs_61 rfl rfl (Nat.le_of_ble_eq_true rfl) (by decide) (fun _ _ hx => hx) h3 ?_
    intro r6 M4 h5
    refine z_if_le (tgt := 43) dX11_touchedBy_34 (by decide) (fun g7 => ?_) (fun g7 => ?_)
    · have h8 := h5.1 g7
      exact h8
    · have h9 := h5.2 g7
      refine z_iload_n dX11_touchedBy_37 rfl ?_
      refine z_iconst (v := (1 : Int32)) dX11_touchedBy_38 rfl ?_
      refine z_iload_n dX11_touchedBy_39 rfl ?_
      refine z_ishl dX11_touchedBy_40 ?_
      refine z_ior dX11_touchedBy_41 ?_
      refine z_istore_n dX11_touchedBy_42 (by decide) (ls' := [.ref 19, .int y1, .int (y2 ||| ((1 : Int32) <<< (y3 &&& 31))), .int y3]) rfl ?_
      exact h9
theorem t_X11_touchedBy_43 {E : zEv} {D : Nat} {post : Int32 → zM → Prop} {px : String → zM → Prop} {M : zM}   {y1 : Int32} {y2 : Int32} {y3 : Int32} (h : w_X11_touchedBy_4 E D post px y1 y2 (y3 + (1 : Int32)) M) : w_X11_touchedBy_43 E D post px y1 y2 y3 M := by
  show Z E jX11_touchedBy (D + 1) 0 (zQi post px) 43 0 [.ref 19, .int y1, .int y2, .int y3] [] M
  refine z_iinc dX11_touchedBy_43 rfl (by decide) (ls' := [.ref 19, .int y1, .int y2, .int (y3 + (1 : Int32))]) rfl ?_
  refine z_goto (tgt := 4) dX11_touchedBy_46 (by decide) ?_
  exact h
def w_X11_allMayBe_2 (E : zEv) (D : Nat) (post : Int32 → zM → Prop) (px : String → zM → Prop)  (y1 : Int32) (y2 : Int32) (y3 : Int32) (M : zM) : Prop := Z E jX11_allMayBe (D + 1) 0 (zQi post px) 2 0 [.ref 19, .int y1, .int y2, .int y3] [] M
theorem e_X11_allMayBe {E : zEv} {D : Nat} {post : Int32 → zM → Prop} {px : String → zM → Prop} {M : zM} {x1 : Int32} {x2 : Int32}  (h : w_X11_allMayBe_2 E D post px x1 x2 (0 : Int32) M) : zCi E jX11_allMayBe (D + 1) 0 [.ref 19, .int x1, .int x2] M post px := by
  refine z_meth (by decide) (Nat.le_of_ble_eq_true rfl) ?_
  show Z E jX11_allMayBe (D + 1) 0 (zQi post px) 0 0 [.ref 19, .int x1, .int x2, zU] [] M
  refine z_iconst (v := (0 : Int32)) dX11_allMayBe_0 rfl ?_
  refine z_istore_n dX11_allMayBe_1 (by decide) (ls' := [.ref 19, .int x1, .int x2, .int (0 : Int32)]) rfl ?_
  exact h
theorem t_X11_allMayBe_2 {E : zEv} {D : Nat} {post : Int32 → zM → Prop} {px : String → zM → Prop} {M : zM}   {y1 : Int32} {y2 : Int32} {y3 : Int32} (h : (((M.1 62 6) ≤ y3 → post (1 : Int32) M) ∧ (¬ (M.1 62 6) ≤ y3 → zCi E jX11_shadesLeft D 0 [.ref 19, .int y1, .int y3, .int y2] M (fun r6 M4 => ((¬ r6 = 0 → w_X11_allMayBe_2 E D post px y1 y2 (y3 + (1 : Int32)) M4) ∧ (r6 = 0 → post (0 : Int32) M4))) px))) : w_X11_allMayBe_2 E D post px y1 y2 y3 M := by
  show Z E jX11_allMayBe (D + 1) 0 (zQi post px) 2 0 [.ref 19, .int y1, .int y2, .int y3] [] M
  refine z_iload_n dX11_allMayBe_2 rfl ?_
  refine z_aload_n dX11_allMayBe_3 rfl ?_
  refine z_getR dX11_allMayBe_4 zg_X11_29 zs_19 rfl ?_
  refine z_getR dX11_allMayBe_7 zg_X11_139 zs_61 rfl ?_
  refine z_getI dX11_allMayBe_10 zg_X11_263 zs_62 rfl ?_
  refine z_icmp_ge (tgt := 34) dX11_allMayBe_13 (by decide) (fun g1 => ?_) (fun g1 => ?_)
  · have h2 := h.1 g1
    refine z_iconst (v := (1 : Int32)) dX11_allMayBe_34 rfl ?_
    exact z_iret dX11_allMayBe_35 rfl (by decide) (by decide) h2
  · have h3 := h.2 g1
    refine z_aload_n dX11_allMayBe_16 rfl ?_
    refine z_iload_n dX11_allMayBe_17 rfl ?_
    refine z_iload_n dX11_allMayBe_18 rfl ?_
    refine z_iload_n dX11_allMayBe_19 rfl ?_
    refine z_callVi (As := [.int y1, .int y3, .int y2]) (st := []) dX11_allMayBe_20 zi_X11_342 rfl rfl zs_19 rfl rfl (Nat.le_of_ble_eq_true rfl) (by decide) (fun _ _ hx => hx) h3 ?_
    intro r6 M4 h5
    refine z_if_ne (tgt := 28) dX11_allMayBe_23 (by decide) (fun g7 => ?_) (fun g7 => ?_)
    · have h8 := h5.1 g7
      refine z_iinc dX11_allMayBe_28 rfl (by decide) (ls' := [.ref 19, .int y1, .int y2, .int (y3 + (1 : Int32))]) rfl ?_
      refine z_goto (tgt := 2) dX11_allMayBe_31 (by decide) ?_
      exact h8
    · have h9 := h5.2 g7
      refine z_iconst (v := (0 : Int32)) dX11_allMayBe_26 rfl ?_
      exact z_iret dX11_allMayBe_27 rfl (by decide) (by decide) h9
def w_X11_shadesLeft_10 (E : zEv) (D : Nat) (post : Int32 → zM → Prop) (px : String → zM → Prop)  (y1 : Int32) (y2 : Int32) (y3 : Int32) (y4 : Int32) (y5 : Int32) (y6 : Int32) (M : zM) : Prop := Z E jX11_shadesLeft (D + 1) 0 (zQi post px) 10 0 [.ref 19, .int y1, .int y2, .int y3, .int y4, .int y5, .int y6, zU, zU, zU] [] M
def w_X11_shadesLeft_115 (E : zEv) (D : Nat) (post : Int32 → zM → Prop) (px : String → zM → Prop)  (y1 : Int32) (y2 : Int32) (y3 : Int32) (y4 : Int32) (y5 : Int32) (y6 : Int32) (M : zM) : Prop := Z E jX11_shadesLeft (D + 1) 0 (zQi post px) 115 0 [.ref 19, .int y1, .int y2, .int y3, .int y4, .int y5, .int y6, zU, zU, zU] [] M
theorem e_X11_shadesLeft {E : zEv} {D : Nat} {post : Int32 → zM → Prop} {px : String → zM → Prop} {M : zM} {x1 : Int32} {x2 : Int32} {x3 : Int32}  (h : w_X11_shadesLeft_10 E D post px x1 x2 x3 (0 : Int32) (99 : Int32) (0 : Int32) M) : zCi E jX11_shadesLeft (D + 1) 0 [.ref 19, .int x1, .int x2, .int x3] M post px := by
  refine z_meth (by decide) (Nat.le_of_ble_eq_true rfl) ?_
  show Z E jX11_shadesLeft (D + 1) 0 (zQi post px) 0 0 [.ref 19, .int x1, .int x2, .int x3, zU, zU, zU, zU, zU, zU] [] M
  refine z_iconst (v := (0 : Int32)) dX11_shadesLeft_0 rfl ?_
  refine z_istore dX11_shadesLeft_1 (by decide) (ls' := [.ref 19, .int x1, .int x2, .int x3, .int (0 : Int32), zU, zU, zU, zU, zU]) rfl ?_
  refine z_bipush (v := (99 : Int32)) dX11_shadesLeft_3 rfl ?_
  refine z_istore dX11_shadesLeft_5 (by decide) (ls' := [.ref 19, .int x1, .int x2, .int x3, .int (0 : Int32), .int (99 : Int32), zU, zU, zU, zU]) rfl ?_
  refine z_iconst (v := (0 : Int32)) dX11_shadesLeft_7 rfl ?_
  refine z_istore dX11_shadesLeft_8 (by decide) (ls' := [.ref 19, .int x1, .int x2, .int x3, .int (0 : Int32), .int (99 : Int32), .int (0 : Int32), zU, zU, zU]) rfl ?_
  exact h
theorem t_X11_shadesLeft_10 {E : zEv} {D : Nat} {post : Int32 → zM → Prop} {px : String → zM → Prop} {M : zM}   {y1 : Int32} {y2 : Int32} {y3 : Int32} {y4 : Int32} {y5 : Int32} {y6 : Int32} (h : ((y1 ≤ y6 → post (zmax (0 : Int32) ((y5 - y4) + (1 : Int32))) M) ∧ (¬ y1 ≤ y6 → zCi E jX9_told D 0 [.ref 20, .int y6, .int (0 : Int32)] M (fun r6 M4 => zCi E jX9_told D 0 [.ref 20, .int y6, .int (1 : Int32)] M4 (fun r9 M7 => ((¬ r9 = y2 → w_X11_shadesLeft_115 E D post px y1 y2 y3 y4 y5 y6 M7) ∧ (r9 = y2 → ((((y3 >>> (r6 &&& 31)) &&& (1 : Int32)) = 0 → vp_in r6 4 ∧ zCi E jX9_told D 0 [.ref 20, .int y6, .int (2 : Int32)] M7 (fun r20 M18 => zCi E jX11_readBy D 0 [.int (M7.1 74 (r6).toNatClampNeg), .int r20] M18 (fun r23 M21 => ((r23 = r20 → w_X11_shadesLeft_115 E D post px y1 y2 y3 (zmax y4 r20) (zmin y5 ((r20 + (M7.1 74 (r6).toNatClampNeg)) - (1 : Int32))) y6 M21) ∧ (¬ r23 = r20 → post (0 : Int32) M21))) px) px) ∧ (¬ ((y3 >>> (r6 &&& 31)) &&& (1 : Int32)) = 0 → w_X11_shadesLeft_115 E D post px y1 y2 y3 y4 y5 y6 M7))))) px) px))) : w_X11_shadesLeft_10 E D post px y1 y2 y3 y4 y5 y6 M := by
  show Z E jX11_shadesLeft (D + 1) 0 (zQi post px) 10 0 [.ref 19, .int y1, .int y2, .int y3, .int y4, .int y5, .int y6, zU, zU, zU] [] M
  refine z_iload dX11_shadesLeft_10 rfl ?_
  refine z_iload_n dX11_shadesLeft_12 rfl ?_
  refine z_icmp_ge (tgt := 121) dX11_shadesLeft_13 (by decide) (fun g1 => ?_) (fun g1 => ?_)
  · have h2 := h.1 g1
    refine z_iconst (v := (0 : Int32)) dX11_shadesLeft_121 rfl ?_
    refine z_iload dX11_shadesLeft_122 rfl ?_
    refine z_iload dX11_shadesLeft_124 rfl ?_
    refine z_isub dX11_shadesLeft_126 ?_
    refine z_iconst (v := (1 : Int32)) dX11_shadesLeft_127 rfl ?_
    refine z_iadd dX11_shadesLeft_128 ?_
    refine z_max dX11_shadesLeft_129 zm_X11_367 (Nat.le_of_ble_eq_true rfl) (by decide) ?_
    exact z_iret dX11_shadesLeft_132 rfl rfl (by decide) h2
  · have h3 := h.2 g1
    refine z_aload_n dX11_shadesLeft_16 rfl ?_
    refine z_getR dX11_shadesLeft_17 zg_X11_10 zs_19 rfl ?_
    refine z_iload dX11_shadesLeft_20 rfl ?_
    refine z_iconst (v := (0 : Int32)) dX11_shadesLeft_22 rfl ?_
    refine z_callVi (As := [.int y6, .int (0 : Int32)]) (st := []) dX11_shadesLeft_23 zi_X11_433 rfl rfl zs_20 rfl rfl (Nat.le_of_ble_eq_true rfl) (by decide) (fun _ _ hx => hx) h3 ?_
    intro r6 M4 h5
    refine z_istore dX11_shadesLeft_26 (by decide) (ls' := [.ref 19, .int y1, .int y2, .int y3, .int y4, .int y5, .int y6, .int r6, zU, zU]) rfl ?_
    refine z_aload_n dX11_shadesLeft_28 rfl ?_
    refine z_getR dX11_shadesLeft_29 zg_X11_10 zs_19 rfl ?_
    refine z_iload dX11_shadesLeft_32 rfl ?_
    refine z_iconst (v := (1 : Int32)) dX11_shadesLeft_34 rfl ?_
    refine z_callVi (As := [.int y6, .int (1 : Int32)]) (st := []) dX11_shadesLeft_35 zi_X11_433 rfl rfl zs_20 rfl rfl (Nat.le_of_ble_eq_true rfl) (by decide) (fun _ _ hx => hx) h5 ?_
    intro r9 M7 h8
    refine z_iload_n dX11_shadesLeft_38 rfl ?_
    refine z_icmp_ne (tgt := 115) dX11_shadesLeft_39 (by decide) (fun g10 => ?_) (fun g10 => ?_)
    · have h11 := h8.1 g10
      refine z_weak [true, true, true, true, true, true, true, false, false, false] (ls' := [.ref 19, .int y1, .int y2, .int y3, .int y4, .int y5, .int y6, zU, zU, zU]) rfl rfl ?_
      exact h11
    · have h12 := h8.2 g10
      refine z_iload_n dX11_shadesLeft_42 rfl ?_
      refine z_iload dX11_shadesLeft_43 rfl ?_
      refine z_ishr dX11_shadesLeft_45 ?_
      refine z_iconst (v := (1 : Int32)) dX11_shadesLeft_46 rfl ?_
      refine z_iand dX11_shadesLeft_47 ?_
      refine z_if_eq (tgt := 54) dX11_shadesLeft_48 (by decide) (fun g13 => ?_) (fun g13 => ?_)
      · have h14 := h12.1 g13
        refine z_aload_n dX11_shadesLeft_54 rfl ?_
        refine z_getR dX11_shadesLeft_55 zg_X11_29 zs_19 rfl ?_
        refine z_getR dX11_shadesLeft_58 zg_X11_210 zs_61 rfl ?_
        refine z_iload dX11_shadesLeft_61 rfl ?_
        obtain ⟨g17, h16⟩ := h14
        refine z_iald dX11_shadesLeft_63 zs_74 g17 ?_
        refine z_istore dX11_shadesLeft_64 (by decide) (ls' := [.ref 19, .int y1, .int y2, .int y3, .int y4, .int y5, .int y6, .int r6, .int (M7.1 74 (r6).toNatClampNeg), zU]) rfl ?_
        refine z_aload_n dX11_shadesLeft_66 rfl ?_
        refine z_getR dX11_shadesLeft_67 zg_X11_10 zs_19 rfl ?_
        refine z_iload dX11_shadesLeft_70 rfl ?_
        refine z_iconst (v := (2 : Int32)) dX11_shadesLeft_72 rfl ?_
        refine z_callVi (As := [.int y6, .int (2 : Int32)]) (st := []) dX11_shadesLeft_73 zi_X11_433 rfl rfl zs_20 rfl rfl (Nat.le_of_ble_eq_true rfl) (by decide) (fun _ _ hx => hx) h16 ?_
        intro r20 M18 h19
        refine z_istore dX11_shadesLeft_76 (by decide) (ls' := [.ref 19, .int y1, .int y2, .int y3, .int y4, .int y5, .int y6, .int r6, .int (M7.1 74 (r6).toNatClampNeg), .int r20]) rfl ?_
        refine z_iload dX11_shadesLeft_78 rfl ?_
        refine z_iload dX11_shadesLeft_80 rfl ?_
        refine z_callSi (As := [.int (M7.1 74 (r6).toNatClampNeg), .int r20]) (st := []) dX11_shadesLeft_82 zi_X11_274 rfl rfl (Nat.le_of_ble_eq_true rfl) (by decide) (fun _ _ hx => hx) h19 ?_
        intro r23 M21 h22
        refine z_iload dX11_shadesLeft_85 rfl ?_
        refine z_icmp_eq (tgt := 92) dX11_shadesLeft_87 (by decide) (fun g24 => ?_) (fun g24 => ?_)
        · have h25 := h22.1 g24
          refine z_iload dX11_shadesLeft_92 rfl ?_
          refine z_iload dX11_shadesLeft_94 rfl ?_
          refine z_max dX11_shadesLeft_96 zm_X11_367 (Nat.le_of_ble_eq_true rfl) (by decide) ?_
          refine z_istore dX11_shadesLeft_99 (by decide) (ls' := [.ref 19, .int y1, .int y2, .int y3, .int (zmax y4 r20), .int y5, .int y6, .int r6, .int (M7.1 74 (r6).toNatClampNeg), .int r20]) rfl ?_
          refine z_iload dX11_shadesLeft_101 rfl ?_
          refine z_iload dX11_shadesLeft_103 rfl ?_
          refine z_iload dX11_shadesLeft_105 rfl ?_
          refine z_iadd dX11_shadesLeft_107 ?_
          refine z_iconst (v := (1 : Int32)) dX11_shadesLeft_108 rfl ?_
          refine z_isub dX11_shadesLeft_109 ?_
          refine z_min dX11_shadesLeft_110 zm_X11_240 (Nat.le_of_ble_eq_true rfl) (by decide) ?_
          refine z_istore dX11_shadesLeft_113 (by decide) (ls' := [.ref 19, .int y1, .int y2, .int y3, .int (zmax y4 r20), .int (zmin y5 ((r20 + (M7.1 74 (r6).toNatClampNeg)) - (1 : Int32))), .int y6, .int r6, .int (M7.1 74 (r6).toNatClampNeg), .int r20]) rfl ?_
          refine z_weak [true, true, true, true, true, true, true, false, false, false] (ls' := [.ref 19, .int y1, .int y2, .int y3, .int (zmax y4 r20), .int (zmin y5 ((r20 + (M7.1 74 (r6).toNatClampNeg)) - (1 : Int32))), .int y6, zU, zU, zU]) rfl rfl ?_
          exact h25
        · have h26 := h22.2 g24
          refine z_iconst (v := (0 : Int32)) dX11_shadesLeft_90 rfl ?_
          exact z_iret dX11_shadesLeft_91 rfl rfl (by decide) h26
      · have h15 := h12.2 g13
        refine z_goto (tgt := 115) dX11_shadesLeft_51 (by decide) ?_
        refine z_weak [true, true, true, true, true, true, true, false, false, false] (ls' := [.ref 19, .int y1, .int y2, .int y3, .int y4, .int y5, .int y6, zU, zU, zU]) rfl rfl ?_
        exact h15
theorem t_X11_shadesLeft_115 {E : zEv} {D : Nat} {post : Int32 → zM → Prop} {px : String → zM → Prop} {M : zM}   {y1 : Int32} {y2 : Int32} {y3 : Int32} {y4 : Int32} {y5 : Int32} {y6 : Int32} (h : w_X11_shadesLeft_10 E D post px y1 y2 y3 y4 y5 (y6 + (1 : Int32)) M) : w_X11_shadesLeft_115 E D post px y1 y2 y3 y4 y5 y6 M := by
  show Z E jX11_shadesLeft (D + 1) 0 (zQi post px) 115 0 [.ref 19, .int y1, .int y2, .int y3, .int y4, .int y5, .int y6, zU, zU, zU] [] M
  refine z_iinc dX11_shadesLeft_115 rfl (by decide) (ls' := [.ref 19, .int y1, .int y2, .int y3, .int y4, .int y5, .int (y6 + (1 : Int32)), zU, zU, zU]) rfl ?_
  refine z_goto (tgt := 10) dX11_shadesLeft_118 (by decide) ?_
  exact h
def w_X11_witnessHas_23 (E : zEv) (D : Nat) (post : Int32 → zM → Prop) (px : String → zM → Prop)  (s0 : Int32) (M : zM) : Prop := Z E jX11_witnessHas D 0 (zQi post px) 23 0 [zU, zU, zU, zU] [.int s0] M
theorem e_X11_witnessHas {E : zEv} {D : Nat} {post : Int32 → zM → Prop} {px : String → zM → Prop} {M : zM} {x1 : Int32} {x2 : Int32} {x3 : Int32} {x4 : Int32}  (h : ((¬ x2 = (1 : Int32) → ((¬ x1 = (1 : Int32) → w_X11_witnessHas_23 E D post px (-x3) M) ∧ (x1 = (1 : Int32) → w_X11_witnessHas_23 E D post px (-(x4 / (5 : Int32))) M))) ∧ (x2 = (1 : Int32) → post ((1 : Int32) - x1) M))) : zCi E jX11_witnessHas D 0 [.int x1, .int x2, .int x3, .int x4] M post px := by
  refine z_meth (by decide) (Nat.le_of_ble_eq_true rfl) ?_
  show Z E jX11_witnessHas D 0 (zQi post px) 0 0 [.int x1, .int x2, .int x3, .int x4] [] M
  refine z_iload_n dX11_witnessHas_0 rfl ?_
  refine z_iconst (v := (1 : Int32)) dX11_witnessHas_1 rfl ?_
  refine z_icmp_ne (tgt := 9) dX11_witnessHas_2 (by decide) (fun g1 => ?_) (fun g1 => ?_)
  · have h2 := h.1 g1
    refine z_iload_n dX11_witnessHas_9 rfl ?_
    refine z_iconst (v := (1 : Int32)) dX11_witnessHas_10 rfl ?_
    refine z_icmp_ne (tgt := 21) dX11_witnessHas_11 (by decide) (fun g4 => ?_) (fun g4 => ?_)
    · have h5 := h2.1 g4
      refine z_iload_n dX11_witnessHas_21 rfl ?_
      refine z_ineg dX11_witnessHas_22 ?_
      refine z_weak [false, false, false, false] (ls' := [zU, zU, zU, zU]) rfl rfl ?_
      exact h5
    · have h6 := h2.2 g4
      refine z_iload_n dX11_witnessHas_14 rfl ?_
      refine z_iconst (v := (5 : Int32)) dX11_witnessHas_15 rfl ?_
      refine z_idiv dX11_witnessHas_16 (by decide) ?_
      refine z_ineg dX11_witnessHas_17 ?_
      refine z_goto (tgt := 23) dX11_witnessHas_18 (by decide) ?_
      refine z_weak [false, false, false, false] (ls' := [zU, zU, zU, zU]) rfl rfl ?_
      exact h6
  · have h3 := h.2 g1
    refine z_iconst (v := (1 : Int32)) dX11_witnessHas_5 rfl ?_
    refine z_iload_n dX11_witnessHas_6 rfl ?_
    refine z_isub dX11_witnessHas_7 ?_
    exact z_iret dX11_witnessHas_8 rfl rfl (by decide) h3
theorem t_X11_witnessHas_23 {E : zEv} {D : Nat} {post : Int32 → zM → Prop} {px : String → zM → Prop} {M : zM}   {s0 : Int32} (h : post s0 M) : w_X11_witnessHas_23 E D post px s0 M := by
  show Z E jX11_witnessHas D 0 (zQi post px) 23 0 [zU, zU, zU, zU] [.int s0] M
  exact z_iret dX11_witnessHas_23 rfl rfl (by decide) h
def w_X11_courtHas_27 (E : zEv) (D : Nat) (post : Int32 → zM → Prop) (px : String → zM → Prop)  (s0 : Int32) (M : zM) : Prop := Z E jX11_courtHas D 0 (zQi post px) 27 0 [zU, zU, zU] [.int s0] M
def w_X11_courtHas_14 (E : zEv) (D : Nat) (post : Int32 → zM → Prop) (px : String → zM → Prop)  (s0 : Int32) (M : zM) : Prop := Z E jX11_courtHas D 0 (zQi post px) 14 0 [zU, zU, zU] [.int s0] M
theorem e_X11_courtHas {E : zEv} {D : Nat} {post : Int32 → zM → Prop} {px : String → zM → Prop} {M : zM} {x1 : Int32} {x2 : Int32} {x3 : Int32}  (h : ((¬ x1 = 0 → ((¬ x2 = (1 : Int32) → w_X11_courtHas_27 E D post px (x3 - (2 : Int32)) M) ∧ (x2 = (1 : Int32) → w_X11_courtHas_27 E D post px (0 : Int32) M))) ∧ (x1 = 0 → ((¬ x2 = (1 : Int32) → w_X11_courtHas_14 E D post px (4 : Int32) M) ∧ (x2 = (1 : Int32) → w_X11_courtHas_14 E D post px (2 : Int32) M))))) : zCi E jX11_courtHas D 0 [.int x1, .int x2, .int x3] M post px := by
  refine z_meth (by decide) (Nat.le_of_ble_eq_true rfl) ?_
  show Z E jX11_courtHas D 0 (zQi post px) 0 0 [.int x1, .int x2, .int x3] [] M
  refine z_iload_n dX11_courtHas_0 rfl ?_
  refine z_if_ne (tgt := 15) dX11_courtHas_1 (by decide) (fun g1 => ?_) (fun g1 => ?_)
  · have h2 := h.1 g1
    refine z_iload_n dX11_courtHas_15 rfl ?_
    refine z_iconst (v := (1 : Int32)) dX11_courtHas_16 rfl ?_
    refine z_icmp_ne (tgt := 24) dX11_courtHas_17 (by decide) (fun g4 => ?_) (fun g4 => ?_)
    · have h5 := h2.1 g4
      refine z_iload_n dX11_courtHas_24 rfl ?_
      refine z_iconst (v := (2 : Int32)) dX11_courtHas_25 rfl ?_
      refine z_isub dX11_courtHas_26 ?_
      refine z_weak [false, false, false] (ls' := [zU, zU, zU]) rfl rfl ?_
      exact h5
    · have h6 := h2.2 g4
      refine z_iconst (v := (0 : Int32)) dX11_courtHas_20 rfl ?_
      refine z_goto (tgt := 27) dX11_courtHas_21 (by decide) ?_
      refine z_weak [false, false, false] (ls' := [zU, zU, zU]) rfl rfl ?_
      exact h6
  · have h3 := h.2 g1
    refine z_iload_n dX11_courtHas_4 rfl ?_
    refine z_iconst (v := (1 : Int32)) dX11_courtHas_5 rfl ?_
    refine z_icmp_ne (tgt := 13) dX11_courtHas_6 (by decide) (fun g7 => ?_) (fun g7 => ?_)
    · have h8 := h3.1 g7
      refine z_iconst (v := (4 : Int32)) dX11_courtHas_13 rfl ?_
      refine z_weak [false, false, false] (ls' := [zU, zU, zU]) rfl rfl ?_
      exact h8
    · have h9 := h3.2 g7
      refine z_iconst (v := (2 : Int32)) dX11_courtHas_9 rfl ?_
      refine z_goto (tgt := 14) dX11_courtHas_10 (by decide) ?_
      refine z_weak [false, false, false] (ls' := [zU, zU, zU]) rfl rfl ?_
      exact h9
theorem t_X11_courtHas_27 {E : zEv} {D : Nat} {post : Int32 → zM → Prop} {px : String → zM → Prop} {M : zM}   {s0 : Int32} (h : post s0 M) : w_X11_courtHas_27 E D post px s0 M := by
  show Z E jX11_courtHas D 0 (zQi post px) 27 0 [zU, zU, zU] [.int s0] M
  exact z_iret dX11_courtHas_27 rfl rfl (by decide) h
theorem t_X11_courtHas_14 {E : zEv} {D : Nat} {post : Int32 → zM → Prop} {px : String → zM → Prop} {M : zM}   {s0 : Int32} (h : post s0 M) : w_X11_courtHas_14 E D post px s0 M := by
  show Z E jX11_courtHas D 0 (zQi post px) 14 0 [zU, zU, zU] [.int s0] M
  exact z_iret dX11_courtHas_14 rfl rfl (by decide) h
def w_X11_waysOf_5 (E : zEv) (D : Nat) (post : Int64 → zM → Prop) (px : String → zM → Prop)  (y1 : Int32) (y2 : Int32) (y3 : Int64) (y5 : Int32) (M : zM) : Prop := Z E jX11_waysOf D 0 (zQl post px) 5 0 [.ref 19, .int y1, .int y2, .long y3, zU, .int y5] [] M
def w_X11_waysOf_34 (E : zEv) (D : Nat) (post : Int64 → zM → Prop) (px : String → zM → Prop)  (y1 : Int32) (y2 : Int32) (y3 : Int64) (y5 : Int32) (M : zM) : Prop := Z E jX11_waysOf D 0 (zQl post px) 34 0 [.ref 19, .int y1, .int y2, .long y3, zU, .int y5] [] M
def w_X11_waysOf_69 (E : zEv) (D : Nat) (post : Int64 → zM → Prop) (px : String → zM → Prop)  (y1 : Int32) (y2 : Int32) (y5 : Int32) (s0 : Int64) (s1 : Int64) (M : zM) : Prop := Z E jX11_waysOf D 0 (zQl post px) 69 0 [.ref 19, .int y1, .int y2, zU, zU, .int y5] [.long s0, .long s1] M
theorem e_X11_waysOf {E : zEv} {D : Nat} {post : Int64 → zM → Prop} {px : String → zM → Prop} {M : zM} {x1 : Int32} {x2 : Int32}  (h : w_X11_waysOf_5 E D post px x1 x2 (1 : Int64) (0 : Int32) M) : zCl E jX11_waysOf D 0 [.ref 19, .int x1, .int x2] M post px := by
  refine z_meth (by decide) (Nat.le_of_ble_eq_true rfl) ?_
  show Z E jX11_waysOf D 0 (zQl post px) 0 0 [.ref 19, .int x1, .int x2, zU, zU, zU] [] M
  refine z_lconst (v := (1 : Int64)) dX11_waysOf_0 rfl ?_
  refine z_lstore_n dX11_waysOf_1 (by decide) (ls' := [.ref 19, .int x1, .int x2, .long (1 : Int64), zU, zU]) rfl ?_
  refine z_iconst (v := (0 : Int32)) dX11_waysOf_2 rfl ?_
  refine z_istore dX11_waysOf_3 (by decide) (ls' := [.ref 19, .int x1, .int x2, .long (1 : Int64), zU, .int (0 : Int32)]) rfl ?_
  exact h
theorem t_X11_waysOf_5 {E : zEv} {D : Nat} {post : Int64 → zM → Prop} {px : String → zM → Prop} {M : zM}   {y1 : Int32} {y2 : Int32} {y3 : Int64} {y5 : Int32} (h : ((y2 ≤ y5 → w_X11_waysOf_34 E D post px y1 y2 y3 (0 : Int32) M) ∧ (¬ y2 ≤ y5 → ¬ (((y5 + (1 : Int32))).toInt64) = 0 ∧ w_X11_waysOf_5 E D post px y1 y2 ((y3 * (((y1 - y5)).toInt64)) / (((y5 + (1 : Int32))).toInt64)) (y5 + (1 : Int32)) M))) : w_X11_waysOf_5 E D post px y1 y2 y3 y5 M := by
  show Z E jX11_waysOf D 0 (zQl post px) 5 0 [.ref 19, .int y1, .int y2, .long y3, zU, .int y5] [] M
  refine z_iload dX11_waysOf_5 rfl ?_
  refine z_iload_n dX11_waysOf_7 rfl ?_
  refine z_icmp_ge (tgt := 31) dX11_waysOf_8 (by decide) (fun g1 => ?_) (fun g1 => ?_)
  · have h2 := h.1 g1
    refine z_iconst (v := (0 : Int32)) dX11_waysOf_31 rfl ?_
    refine z_istore dX11_waysOf_32 (by decide) (ls' := [.ref 19, .int y1, .int y2, .long y3, zU, .int (0 : Int32)]) rfl ?_
    exact h2
  · have h3 := h.2 g1
    refine z_lload_n dX11_waysOf_11 rfl ?_
    refine z_iload_n dX11_waysOf_12 rfl ?_
    refine z_iload dX11_waysOf_13 rfl ?_
    refine z_isub dX11_waysOf_15 ?_
    refine z_i2l (v := (((y1 - y5)).toInt64)) dX11_waysOf_16 rfl ?_
    refine z_lmul dX11_waysOf_17 ?_
    refine z_iload dX11_waysOf_18 rfl ?_
    refine z_iconst (v := (1 : Int32)) dX11_waysOf_20 rfl ?_
    refine z_iadd dX11_waysOf_21 ?_
    refine z_i2l (v := (((y5 + (1 : Int32))).toInt64)) dX11_waysOf_22 rfl ?_
    obtain ⟨g5, h4⟩ := h3
    refine z_ldiv dX11_waysOf_23 g5 ?_
    refine z_lstore_n dX11_waysOf_24 (by decide) (ls' := [.ref 19, .int y1, .int y2, .long ((y3 * (((y1 - y5)).toInt64)) / (((y5 + (1 : Int32))).toInt64)), zU, .int y5]) rfl ?_
    refine z_iinc dX11_waysOf_25 rfl (by decide) (ls' := [.ref 19, .int y1, .int y2, .long ((y3 * (((y1 - y5)).toInt64)) / (((y5 + (1 : Int32))).toInt64)), zU, .int (y5 + (1 : Int32))]) rfl ?_
    refine z_goto (tgt := 5) dX11_waysOf_28 (by decide) ?_
    exact h4
theorem t_X11_waysOf_34 {E : zEv} {D : Nat} {post : Int64 → zM → Prop} {px : String → zM → Prop} {M : zM}   {y1 : Int32} {y2 : Int32} {y3 : Int64} {y5 : Int32} (h : ((y1 ≤ y5 → post y3 M) ∧ (¬ y1 ≤ y5 → ((y2 ≤ y5 → w_X11_waysOf_69 E D post px y1 y2 y5 ((((100 : Int32) - (M.1 61 12))).toInt64) y3 M) ∧ (¬ y2 ≤ y5 → w_X11_waysOf_69 E D post px y1 y2 y5 (((M.1 61 12)).toInt64) y3 M))))) : w_X11_waysOf_34 E D post px y1 y2 y3 y5 M := by
  show Z E jX11_waysOf D 0 (zQl post px) 34 0 [.ref 19, .int y1, .int y2, .long y3, zU, .int y5] [] M
  refine z_iload dX11_waysOf_34 rfl ?_
  refine z_iload_n dX11_waysOf_36 rfl ?_
  refine z_icmp_ge (tgt := 77) dX11_waysOf_37 (by decide) (fun g1 => ?_) (fun g1 => ?_)
  · have h2 := h.1 g1
    refine z_lload_n dX11_waysOf_77 rfl ?_
    exact z_lret dX11_waysOf_78 rfl (by decide) h2
  · have h3 := h.2 g1
    refine z_lload_n dX11_waysOf_40 rfl ?_
    refine z_iload dX11_waysOf_41 rfl ?_
    refine z_iload_n dX11_waysOf_43 rfl ?_
    refine z_icmp_ge (tgt := 58) dX11_waysOf_44 (by decide) (fun g4 => ?_) (fun g4 => ?_)
    · have h5 := h3.1 g4
      refine z_bipush (v := (100 : Int32)) dX11_waysOf_58 rfl ?_
      refine z_aload_n dX11_waysOf_60 rfl ?_
      refine z_getR dX11_waysOf_61 zg_X11_29 zs_19 rfl ?_
      refine z_getI dX11_waysOf_64 zg_X11_445 zs_61 rfl ?_
      refine z_isub dX11_waysOf_67 ?_
      refine z_i2l (v := ((((100 : Int32) - (M.1 61 12))).toInt64)) dX11_waysOf_68 rfl ?_
      refine z_weak [true, true, true, false, false, true] (ls' := [.ref 19, .int y1, .int y2, zU, zU, .int y5]) rfl rfl ?_
      exact h5
    · have h6 := h3.2 g4
      refine z_aload_n dX11_waysOf_47 rfl ?_
      refine z_getR dX11_waysOf_48 zg_X11_29 zs_19 rfl ?_
      refine z_getI dX11_waysOf_51 zg_X11_445 zs_61 rfl ?_
      refine z_i2l (v := (((M.1 61 12)).toInt64)) dX11_waysOf_54 rfl ?_
      refine z_goto (tgt := 69) dX11_waysOf_55 (by decide) ?_
      refine z_weak [true, true, true, false, false, true] (ls' := [.ref 19, .int y1, .int y2, zU, zU, .int y5]) rfl rfl ?_
      exact h6
theorem t_X11_waysOf_69 {E : zEv} {D : Nat} {post : Int64 → zM → Prop} {px : String → zM → Prop} {M : zM}   {y1 : Int32} {y2 : Int32} {y5 : Int32} {s0 : Int64} {s1 : Int64} (h : w_X11_waysOf_34 E D post px y1 y2 (s1 * s0) (y5 + (1 : Int32)) M) : w_X11_waysOf_69 E D post px y1 y2 y5 s0 s1 M := by
  show Z E jX11_waysOf D 0 (zQl post px) 69 0 [.ref 19, .int y1, .int y2, zU, zU, .int y5] [.long s0, .long s1] M
  refine z_lmul dX11_waysOf_69 ?_
  refine z_lstore_n dX11_waysOf_70 (by decide) (ls' := [.ref 19, .int y1, .int y2, .long (s1 * s0), zU, .int y5]) rfl ?_
  refine z_iinc dX11_waysOf_71 rfl (by decide) (ls' := [.ref 19, .int y1, .int y2, .long (s1 * s0), zU, .int (y5 + (1 : Int32))]) rfl ?_
  refine z_goto (tgt := 34) dX11_waysOf_74 (by decide) ?_
  exact h
def w_X11_readBy_14 (E : zEv) (D : Nat) (post : Int32 → zM → Prop) (px : String → zM → Prop)  (s0 : Int32) (M : zM) : Prop := Z E jX11_readBy D 0 (zQi post px) 14 0 [zU, zU] [.int s0] M
theorem e_X11_readBy {E : zEv} {D : Nat} {post : Int32 → zM → Prop} {px : String → zM → Prop} {M : zM} {x1 : Int32} {x2 : Int32}  (h : (((1 : Int32) ≤ x1 → ¬ x1 = 0 ∧ w_X11_readBy_14 E D post px ((x2 / x1) * x1) M) ∧ (¬ (1 : Int32) ≤ x1 → w_X11_readBy_14 E D post px (0 : Int32) M))) : zCi E jX11_readBy D 0 [.int x1, .int x2] M post px := by
  refine z_meth (by decide) (Nat.le_of_ble_eq_true rfl) ?_
  show Z E jX11_readBy D 0 (zQi post px) 0 0 [.int x1, .int x2] [] M
  refine z_iload_n dX11_readBy_0 rfl ?_
  refine z_iconst (v := (1 : Int32)) dX11_readBy_1 rfl ?_
  refine z_icmp_ge (tgt := 9) dX11_readBy_2 (by decide) (fun g1 => ?_) (fun g1 => ?_)
  · have h2 := h.1 g1
    refine z_iload_n dX11_readBy_9 rfl ?_
    refine z_iload_n dX11_readBy_10 rfl ?_
    obtain ⟨g5, h4⟩ := h2
    refine z_idiv dX11_readBy_11 g5 ?_
    refine z_iload_n dX11_readBy_12 rfl ?_
    refine z_imul dX11_readBy_13 ?_
    refine z_weak [false, false] (ls' := [zU, zU]) rfl rfl ?_
    exact h4
  · have h3 := h.2 g1
    refine z_iconst (v := (0 : Int32)) dX11_readBy_5 rfl ?_
    refine z_goto (tgt := 14) dX11_readBy_6 (by decide) ?_
    refine z_weak [false, false] (ls' := [zU, zU]) rfl rfl ?_
    exact h3
theorem t_X11_readBy_14 {E : zEv} {D : Nat} {post : Int32 → zM → Prop} {px : String → zM → Prop} {M : zM}   {s0 : Int32} (h : post s0 M) : w_X11_readBy_14 E D post px s0 M := by
  show Z E jX11_readBy D 0 (zQi post px) 14 0 [zU, zU] [.int s0] M
  exact z_iret dX11_readBy_14 rfl rfl (by decide) h
