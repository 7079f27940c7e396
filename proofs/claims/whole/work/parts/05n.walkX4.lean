def w_X4_read_15 (E : zEv) (D : Nat) (post : Int32 → zM → Prop) (px : String → zM → Prop)  (y2 : Int32) (M : zM) : Prop := Z E jX4_read (D + 1) 0 (zQi post px) 15 0 [.ref 20, .ref 75, .int y2] [] M
theorem e_X4_read {E : zEv} {D : Nat} {post : Int32 → zM → Prop} {px : String → zM → Prop} {M : zM}   (h : zCv E jX9_open D 0 [.ref 20] M (fun M1 => zCi E jX9_isEnd D 0 [.ref 20] M1 (fun r5 M3 => ((r5 = 0 → w_X4_read_15 E D post px (0 : Int32) M3) ∧ (¬ r5 = 0 → post (1 : Int32) M3))) px) px) : zCi E jX4_read (D + 1) 0 [.ref 20, .ref 75] M post px := by
  refine z_meth (by decide) (Nat.le_of_ble_eq_true rfl) ?_
  show Z E jX4_read (D + 1) 0 (zQi post px) 0 0 [.ref 20, .ref 75, zU] [] M
  refine z_aload_n dX4_read_0 rfl ?_
  refine z_callVv (As := []) (st := []) dX4_read_1 zi_X4_9 rfl rfl zs_20 rfl rfl (Nat.le_of_ble_eq_true rfl) (by decide) (fun _ _ hx => hx) h ?_
  intro M1 h2
  refine z_aload_n dX4_read_4 rfl ?_
  refine z_callVi (As := []) (st := []) dX4_read_5 zi_X4_14 rfl rfl zs_20 rfl rfl (Nat.le_of_ble_eq_true rfl) (by decide) (fun _ _ hx => hx) h2 ?_
  intro r5 M3 h4
  refine z_if_eq (tgt := 13) dX4_read_8 (by decide) (fun g6 => ?_) (fun g6 => ?_)
  · have h7 := h4.1 g6
    refine z_iconst (v := (0 : Int32)) dX4_read_13 rfl ?_
    refine z_istore_n dX4_read_14 (by decide) (ls' := [.ref 20, .ref 75, .int (0 : Int32)]) rfl ?_
    exact h7
  · have h8 := h4.2 g6
    refine z_iconst (v := (1 : Int32)) dX4_read_11 rfl ?_
    exact z_iret dX4_read_12 rfl (by decide) (by decide) h8
theorem t_X4_read_15 {E : zEv} {D : Nat} {post : Int32 → zM → Prop} {px : String → zM → Prop} {M : zM}   {y2 : Int32} (h : (((14 : Int32) ≤ y2 → post (0 : Int32) M) ∧ (¬ (14 : Int32) ≤ y2 → zCi E jX4_readLine D 0 [.ref 20, .ref 75] M (fun r6 M4 => ((¬ r6 = 0 → zCi E jX9_isEnd D 0 [.ref 20] M4 (fun r12 M10 => ((r12 = 0 → zCi E jX9_takeSign D 0 [.ref 20, .int (59 : Int32)] M10 (fun r18 M16 => ((¬ r18 = 0 → w_X4_read_15 E D post px (y2 + (1 : Int32)) M16) ∧ (r18 = 0 → post (0 : Int32) M16))) px) ∧ (¬ r12 = 0 → post (1 : Int32) M10))) px) ∧ (r6 = 0 → post (0 : Int32) M4))) px))) : w_X4_read_15 E D post px y2 M := by
  show Z E jX4_read (D + 1) 0 (zQi post px) 15 0 [.ref 20, .ref 75, .int y2] [] M
  refine z_iload_n dX4_read_15 rfl ?_
  refine z_bipush (v := (14 : Int32)) dX4_read_16 rfl ?_
  refine z_icmp_ge (tgt := 57) dX4_read_18 (by decide) (fun g1 => ?_) (fun g1 => ?_)
  · have h2 := h.1 g1
    refine z_iconst (v := (0 : Int32)) dX4_read_57 rfl ?_
    exact z_iret dX4_read_58 rfl (by decide) (by decide) h2
  · have h3 := h.2 g1
    refine z_aload_n dX4_read_21 rfl ?_
    refine z_aload_n dX4_read_22 rfl ?_
    refine z_callSi (As := [.ref 20, .ref 75]) (st := []) dX4_read_23 zi_X4_18 rfl rfl (Nat.le_of_ble_eq_true rfl) (by decide) (fun _ _ hx => hx) h3 ?_
    intro r6 M4 h5
    refine z_if_ne (tgt := 31) dX4_read_26 (by decide) (fun g7 => ?_) (fun g7 => ?_)
    · have h8 := h5.1 g7
      refine z_aload_n dX4_read_31 rfl ?_
      refine z_callVi (As := []) (st := []) dX4_read_32 zi_X4_14 rfl rfl zs_20 rfl rfl (Nat.le_of_ble_eq_true rfl) (by decide) (fun _ _ hx => hx) h8 ?_
      intro r12 M10 h11
      refine z_if_eq (tgt := 40) dX4_read_35 (by decide) (fun g13 => ?_) (fun g13 => ?_)
      · have h14 := h11.1 g13
        refine z_aload_n dX4_read_40 rfl ?_
        refine z_bipush (v := (59 : Int32)) dX4_read_41 rfl ?_
        refine z_callVi (As := [.int (59 : Int32)]) (st := []) dX4_read_43 zi_X4_24 rfl rfl zs_20 rfl rfl (Nat.le_of_ble_eq_true rfl) (by decide) (fun _ _ hx => hx) h14 ?_
        intro r18 M16 h17
        refine z_if_ne (tgt := 51) dX4_read_46 (by decide) (fun g19 => ?_) (fun g19 => ?_)
        · have h20 := h17.1 g19
          refine z_iinc dX4_read_51 rfl (by decide) (ls' := [.ref 20, .ref 75, .int (y2 + (1 : Int32))]) rfl ?_
          refine z_goto (tgt := 15) dX4_read_54 (by decide) ?_
          exact h20
        · have h21 := h17.2 g19
          refine z_iconst (v := (0 : Int32)) dX4_read_49 rfl ?_
          exact z_iret dX4_read_50 rfl (by decide) (by decide) h21
      · have h15 := h11.2 g13
        refine z_iconst (v := (1 : Int32)) dX4_read_38 rfl ?_
        exact z_iret dX4_read_39 rfl (by decide) (by decide) h15
    · have h9 := h5.2 g7
      refine z_iconst (v := (0 : Int32)) dX4_read_29 rfl ?_
      exact z_iret dX4_read_30 rfl (by decide) (by decide) h9
def w_X4_readLine_130 (E : zEv) (D : Nat) (post : Int32 → zM → Prop) (px : String → zM → Prop)   (M : zM) : Prop := Z E jX4_readLine (D + 1) 0 (zQi post px) 130 0 [zU, zU] [] M
def w_X4_readLine_131 (E : zEv) (D : Nat) (post : Int32 → zM → Prop) (px : String → zM → Prop)  (s0 : Int32) (M : zM) : Prop := Z E jX4_readLine (D + 1) 0 (zQi post px) 131 0 [zU, zU] [.int s0] M
def w_X4_readLine_99 (E : zEv) (D : Nat) (post : Int32 → zM → Prop) (px : String → zM → Prop)   (M : zM) : Prop := Z E jX4_readLine (D + 1) 0 (zQi post px) 99 0 [zU, zU] [] M
def w_X4_readLine_100 (E : zEv) (D : Nat) (post : Int32 → zM → Prop) (px : String → zM → Prop)  (s0 : Int32) (M : zM) : Prop := Z E jX4_readLine (D + 1) 0 (zQi post px) 100 0 [zU, zU] [.int s0] M
def w_X4_readLine_67 (E : zEv) (D : Nat) (post : Int32 → zM → Prop) (px : String → zM → Prop)   (M : zM) : Prop := Z E jX4_readLine (D + 1) 0 (zQi post px) 67 0 [zU, zU] [] M
def w_X4_readLine_68 (E : zEv) (D : Nat) (post : Int32 → zM → Prop) (px : String → zM → Prop)  (s0 : Int32) (M : zM) : Prop := Z E jX4_readLine (D + 1) 0 (zQi post px) 68 0 [zU, zU] [.int s0] M
def w_X4_readLine_35 (E : zEv) (D : Nat) (post : Int32 → zM → Prop) (px : String → zM → Prop)   (M : zM) : Prop := Z E jX4_readLine (D + 1) 0 (zQi post px) 35 0 [zU, zU] [] M
def w_X4_readLine_36 (E : zEv) (D : Nat) (post : Int32 → zM → Prop) (px : String → zM → Prop)  (s0 : Int32) (M : zM) : Prop := Z E jX4_readLine (D + 1) 0 (zQi post px) 36 0 [zU, zU] [.int s0] M
theorem e_X4_readLine {E : zEv} {D : Nat} {post : Int32 → zM → Prop} {px : String → zM → Prop} {M : zM}   (h : zCi E jX9_isWord D 0 [.ref 20, .ref (271 + 0)] M (fun r3 M1 => ((r3 = 0 → zCi E jX9_isWord D 0 [.ref 20, .ref (271 + 5)] M1 (fun r9 M7 => ((r9 = 0 → zCi E jX9_isWord D 0 [.ref 20, .ref (271 + 9)] M7 (fun r15 M13 => ((r15 = 0 → zCi E jX9_isWord D 0 [.ref 20, .ref (271 + 10)] M13 (fun r21 M19 => ((r21 = 0 → zCi E jX4_readNumber D 0 [.ref 20, .ref 75] M19 (fun r27 M25 => (r27 = 0 ∨ r27 = 1) ∧ post r27 M25) px) ∧ (¬ r21 = 0 → (((4 : Int32) ≤ (M19.1 75 8) → w_X4_readLine_130 E D post px  M19) ∧ (¬ (4 : Int32) ≤ (M19.1 75 8) → zCi E jX4_readWoman D 0 [.ref 20, .ref 75] M19 (fun r35 M33 => ((r35 = 0 → w_X4_readLine_130 E D post px  M33) ∧ (¬ r35 = 0 → w_X4_readLine_131 E D post px (1 : Int32) M33))) px))))) px) ∧ (¬ r15 = 0 → (((8 : Int32) ≤ (M13.1 75 7) → w_X4_readLine_99 E D post px  M13) ∧ (¬ (8 : Int32) ≤ (M13.1 75 7) → zCi E jX4_readQuestion D 0 [.ref 20, .ref 75] M13 (fun r44 M42 => ((r44 = 0 → w_X4_readLine_99 E D post px  M42) ∧ (¬ r44 = 0 → w_X4_readLine_100 E D post px (1 : Int32) M42))) px))))) px) ∧ (¬ r9 = 0 → (((6 : Int32) ≤ (M7.1 75 6) → w_X4_readLine_67 E D post px  M7) ∧ (¬ (6 : Int32) ≤ (M7.1 75 6) → zCi E jX4_readThing D 0 [.ref 20, .ref 75] M7 (fun r53 M51 => ((r53 = 0 → w_X4_readLine_67 E D post px  M51) ∧ (¬ r53 = 0 → w_X4_readLine_68 E D post px (1 : Int32) M51))) px))))) px) ∧ (¬ r3 = 0 → (((5 : Int32) ≤ (M1.1 76 6) → w_X4_readLine_35 E D post px  M1) ∧ (¬ (5 : Int32) ≤ (M1.1 76 6) → zCi E jX4_readWitness D 0 [.ref 20, .ref 76] M1 (fun r62 M60 => ((r62 = 0 → w_X4_readLine_35 E D post px  M60) ∧ (¬ r62 = 0 → w_X4_readLine_36 E D post px (1 : Int32) M60))) px))))) px) : zCi E jX4_readLine (D + 1) 0 [.ref 20, .ref 75] M post px := by
  refine z_meth (by decide) (Nat.le_of_ble_eq_true rfl) ?_
  show Z E jX4_readLine (D + 1) 0 (zQi post px) 0 0 [.ref 20, .ref 75] [] M
  refine z_aload_n dX4_readLine_0 rfl ?_
  refine z_ldcS (i := 0) dX4_readLine_1 rfl ?_
  refine z_callVi (As := [.ref (271 + 0)]) (st := []) dX4_readLine_3 zi_X4_30 rfl rfl zs_20 rfl rfl (Nat.le_of_ble_eq_true rfl) (by decide) (fun _ _ hx => hx) h ?_
  intro r3 M1 h2
  refine z_if_eq (tgt := 37) dX4_readLine_6 (by decide) (fun g4 => ?_) (fun g4 => ?_)
  · have h5 := h2.1 g4
    refine z_aload_n dX4_readLine_37 rfl ?_
    refine z_ldcS (i := 5) dX4_readLine_38 rfl ?_
    refine z_callVi (As := [.ref (271 + 5)]) (st := []) dX4_readLine_40 zi_X4_30 rfl rfl zs_20 rfl rfl (Nat.le_of_ble_eq_true rfl) (by decide) (fun _ _ hx => hx) h5 ?_
    intro r9 M7 h8
    refine z_if_eq (tgt := 69) dX4_readLine_43 (by decide) (fun g10 => ?_) (fun g10 => ?_)
    · have h11 := h8.1 g10
      refine z_aload_n dX4_readLine_69 rfl ?_
      refine z_ldcS (i := 9) dX4_readLine_70 rfl ?_
      refine z_callVi (As := [.ref (271 + 9)]) (st := []) dX4_readLine_72 zi_X4_30 rfl rfl zs_20 rfl rfl (Nat.le_of_ble_eq_true rfl) (by decide) (fun _ _ hx => hx) h11 ?_
      intro r15 M13 h14
      refine z_if_eq (tgt := 101) dX4_readLine_75 (by decide) (fun g16 => ?_) (fun g16 => ?_)
      · have h17 := h14.1 g16
        refine z_aload_n dX4_readLine_101 rfl ?_
        refine z_ldcS (i := 10) dX4_readLine_102 rfl ?_
        refine z_callVi (As := [.ref (271 + 10)]) (st := []) dX4_readLine_104 zi_X4_30 rfl rfl zs_20 rfl rfl (Nat.le_of_ble_eq_true rfl) (by decide) (fun _ _ hx => hx) h17 ?_
        intro r21 M19 h20
        refine z_if_eq (tgt := 132) dX4_readLine_107 (by decide) (fun g22 => ?_) (fun g22 => ?_)
        · have h23 := h20.1 g22
          refine z_aload_n dX4_readLine_132 rfl ?_
          refine z_aload_n dX4_readLine_133 rfl ?_
          refine z_callSi (As := [.ref 20, .ref 75]) (st := []) dX4_readLine_134 zi_X4_74 rfl rfl (Nat.le_of_ble_eq_true rfl) (by decide) (fun _ _ hx => hx) h23 ?_
          intro r27 M25 h26
          obtain ⟨g29, h28⟩ := h26
          exact z_iret dX4_readLine_137 rfl (zbool g29) (by decide) h28
        · have h24 := h20.2 g22
          refine z_aload_n dX4_readLine_110 rfl ?_
          refine z_getI dX4_readLine_111 zg_X4_68 zs_75 rfl ?_
          refine z_iconst (v := (4 : Int32)) dX4_readLine_114 rfl ?_
          refine z_icmp_ge (tgt := 130) dX4_readLine_115 (by decide) (fun g30 => ?_) (fun g30 => ?_)
          · have h31 := h24.1 g30
            refine z_weak [false, false] (ls' := [zU, zU]) rfl rfl ?_
            exact h31
          · have h32 := h24.2 g30
            refine z_aload_n dX4_readLine_118 rfl ?_
            refine z_aload_n dX4_readLine_119 rfl ?_
            refine z_callSi (As := [.ref 20, .ref 75]) (st := []) dX4_readLine_120 zi_X4_71 rfl rfl (Nat.le_of_ble_eq_true rfl) (by decide) (fun _ _ hx => hx) h32 ?_
            intro r35 M33 h34
            refine z_if_eq (tgt := 130) dX4_readLine_123 (by decide) (fun g36 => ?_) (fun g36 => ?_)
            · have h37 := h34.1 g36
              refine z_weak [false, false] (ls' := [zU, zU]) rfl rfl ?_
              exact h37
            · have h38 := h34.2 g36
              refine z_iconst (v := (1 : Int32)) dX4_readLine_126 rfl ?_
              refine z_goto (tgt := 131) dX4_readLine_127 (by decide) ?_
              refine z_weak [false, false] (ls' := [zU, zU]) rfl rfl ?_
              exact h38
      · have h18 := h14.2 g16
        refine z_aload_n dX4_readLine_78 rfl ?_
        refine z_getI dX4_readLine_79 zg_X4_60 zs_75 rfl ?_
        refine z_bipush (v := (8 : Int32)) dX4_readLine_82 rfl ?_
        refine z_icmp_ge (tgt := 99) dX4_readLine_84 (by decide) (fun g39 => ?_) (fun g39 => ?_)
        · have h40 := h18.1 g39
          refine z_weak [false, false] (ls' := [zU, zU]) rfl rfl ?_
          exact h40
        · have h41 := h18.2 g39
          refine z_aload_n dX4_readLine_87 rfl ?_
          refine z_aload_n dX4_readLine_88 rfl ?_
          refine z_callSi (As := [.ref 20, .ref 75]) (st := []) dX4_readLine_89 zi_X4_63 rfl rfl (Nat.le_of_ble_eq_true rfl) (by decide) (fun _ _ hx => hx) h41 ?_
          intro r44 M42 h43
          refine z_if_eq (tgt := 99) dX4_readLine_92 (by decide) (fun g45 => ?_) (fun g45 => ?_)
          · have h46 := h43.1 g45
            refine z_weak [false, false] (ls' := [zU, zU]) rfl rfl ?_
            exact h46
          · have h47 := h43.2 g45
            refine z_iconst (v := (1 : Int32)) dX4_readLine_95 rfl ?_
            refine z_goto (tgt := 100) dX4_readLine_96 (by decide) ?_
            refine z_weak [false, false] (ls' := [zU, zU]) rfl rfl ?_
            exact h47
    · have h12 := h8.2 g10
      refine z_aload_n dX4_readLine_46 rfl ?_
      refine z_getI dX4_readLine_47 zg_X4_52 zs_75 rfl ?_
      refine z_bipush (v := (6 : Int32)) dX4_readLine_50 rfl ?_
      refine z_icmp_ge (tgt := 67) dX4_readLine_52 (by decide) (fun g48 => ?_) (fun g48 => ?_)
      · have h49 := h12.1 g48
        refine z_weak [false, false] (ls' := [zU, zU]) rfl rfl ?_
        exact h49
      · have h50 := h12.2 g48
        refine z_aload_n dX4_readLine_55 rfl ?_
        refine z_aload_n dX4_readLine_56 rfl ?_
        refine z_callSi (As := [.ref 20, .ref 75]) (st := []) dX4_readLine_57 zi_X4_55 rfl rfl (Nat.le_of_ble_eq_true rfl) (by decide) (fun _ _ hx => hx) h50 ?_
        intro r53 M51 h52
        refine z_if_eq (tgt := 67) dX4_readLine_60 (by decide) (fun g54 => ?_) (fun g54 => ?_)
        · have h55 := h52.1 g54
          refine z_weak [false, false] (ls' := [zU, zU]) rfl rfl ?_
          exact h55
        · have h56 := h52.2 g54
          refine z_iconst (v := (1 : Int32)) dX4_readLine_63 rfl ?_
          refine z_goto (tgt := 68) dX4_readLine_64 (by decide) ?_
          refine z_weak [false, false] (ls' := [zU, zU]) rfl rfl ?_
          exact h56
  · have h6 := h2.2 g4
    refine z_aload_n dX4_readLine_9 rfl ?_
    refine z_getR dX4_readLine_10 zg_X4_34 zs_75 rfl ?_
    refine z_getI dX4_readLine_13 zg_X4_40 zs_76 rfl ?_
    refine z_iconst (v := (5 : Int32)) dX4_readLine_16 rfl ?_
    refine z_icmp_ge (tgt := 35) dX4_readLine_17 (by decide) (fun g57 => ?_) (fun g57 => ?_)
    · have h58 := h6.1 g57
      refine z_weak [false, false] (ls' := [zU, zU]) rfl rfl ?_
      exact h58
    · have h59 := h6.2 g57
      refine z_aload_n dX4_readLine_20 rfl ?_
      refine z_aload_n dX4_readLine_21 rfl ?_
      refine z_getR dX4_readLine_22 zg_X4_34 zs_75 rfl ?_
      refine z_callSi (As := [.ref 20, .ref 76]) (st := []) dX4_readLine_25 zi_X4_46 rfl rfl (Nat.le_of_ble_eq_true rfl) (by decide) (fun _ _ hx => hx) h59 ?_
      intro r62 M60 h61
      refine z_if_eq (tgt := 35) dX4_readLine_28 (by decide) (fun g63 => ?_) (fun g63 => ?_)
      · have h64 := h61.1 g63
        refine z_weak [false, false] (ls' := [zU, zU]) rfl rfl ?_
        exact h64
      · have h65 := h61.2 g63
        refine z_iconst (v := (1 : Int32)) dX4_readLine_31 rfl ?_
        refine z_goto (tgt := 36) dX4_readLine_32 (by decide) ?_
        refine z_weak [false, false] (ls' := [zU, zU]) rfl rfl ?_
        exact h65
theorem t_X4_readLine_130 {E : zEv} {D : Nat} {post : Int32 → zM → Prop} {px : String → zM → Prop} {M : zM}    (h : w_X4_readLine_131 E D post px (0 : Int32) M) : w_X4_readLine_130 E D post px  M := by
  show Z E jX4_readLine (D + 1) 0 (zQi post px) 130 0 [zU, zU] [] M
  refine z_iconst (v := (0 : Int32)) dX4_readLine_130 rfl ?_
  exact h
theorem t_X4_readLine_131 {E : zEv} {D : Nat} {post : Int32 → zM → Prop} {px : String → zM → Prop} {M : zM}   {s0 : Int32} (h : (s0 = 0 ∨ s0 = 1) ∧ post s0 M) : w_X4_readLine_131 E D post px s0 M := by
  show Z E jX4_readLine (D + 1) 0 (zQi post px) 131 0 [zU, zU] [.int s0] M
  obtain ⟨g2, h1⟩ := h
  exact z_iret dX4_readLine_131 rfl (zbool g2) (by decide) h1
theorem t_X4_readLine_99 {E : zEv} {D : Nat} {post : Int32 → zM → Prop} {px : String → zM → Prop} {M : zM}    (h : w_X4_readLine_100 E D post px (0 : Int32) M) : w_X4_readLine_99 E D post px  M := by
  show Z E jX4_readLine (D + 1) 0 (zQi post px) 99 0 [zU, zU] [] M
  refine z_iconst (v := (0 : Int32)) dX4_readLine_99 rfl ?_
  exact h
theorem t_X4_readLine_100 {E : zEv} {D : Nat} {post : Int32 → zM → Prop} {px : String → zM → Prop} {M : zM}   {s0 : Int32} (h : (s0 = 0 ∨ s0 = 1) ∧ post s0 M) : w_X4_readLine_100 E D post px s0 M := by
  show Z E jX4_readLine (D + 1) 0 (zQi post px) 100 0 [zU, zU] [.int s0] M
  obtain ⟨g2, h1⟩ := h
  exact z_iret dX4_readLine_100 rfl (zbool g2) (by decide) h1
theorem t_X4_readLine_67 {E : zEv} {D : Nat} {post : Int32 → zM → Prop} {px : String → zM → Prop} {M : zM}    (h : w_X4_readLine_68 E D post px (0 : Int32) M) : w_X4_readLine_67 E D post px  M := by
  show Z E jX4_readLine (D + 1) 0 (zQi post px) 67 0 [zU, zU] [] M
  refine z_iconst (v := (0 : Int32)) dX4_readLine_67 rfl ?_
  exact h
theorem t_X4_readLine_68 {E : zEv} {D : Nat} {post : Int32 → zM → Prop} {px : String → zM → Prop} {M : zM}   {s0 : Int32} (h : (s0 = 0 ∨ s0 = 1) ∧ post s0 M) : w_X4_readLine_68 E D post px s0 M := by
  show Z E jX4_readLine (D + 1) 0 (zQi post px) 68 0 [zU, zU] [.int s0] M
  obtain ⟨g2, h1⟩ := h
  exact z_iret dX4_readLine_68 rfl (zbool g2) (by decide) h1
theorem t_X4_readLine_35 {E : zEv} {D : Nat} {post : Int32 → zM → Prop} {px : String → zM → Prop} {M : zM}    (h : w_X4_readLine_36 E D post px (0 : Int32) M) : w_X4_readLine_35 E D post px  M := by
  show Z E jX4_readLine (D + 1) 0 (zQi post px) 35 0 [zU, zU] [] M
  refine z_iconst (v := (0 : Int32)) dX4_readLine_35 rfl ?_
  exact h
theorem t_X4_readLine_36 {E : zEv} {D : Nat} {post : Int32 → zM → Prop} {px : String → zM → Prop} {M : zM}   {s0 : Int32} (h : (s0 = 0 ∨ s0 = 1) ∧ post s0 M) : w_X4_readLine_36 E D post px s0 M := by
  show Z E jX4_readLine (D + 1) 0 (zQi post px) 36 0 [zU, zU] [.int s0] M
  obtain ⟨g2, h1⟩ := h
  exact z_iret dX4_readLine_36 rfl (zbool g2) (by decide) h1
def w_X4_readNumber_144 (E : zEv) (D : Nat) (post : Int32 → zM → Prop) (px : String → zM → Prop)  (s0 : Int32) (M : zM) : Prop := Z E jX4_readNumber (D + 1) 0 (zQi post px) 144 0 [zU, zU] [.int s0] M
def w_X4_readNumber_107 (E : zEv) (D : Nat) (post : Int32 → zM → Prop) (px : String → zM → Prop)  (s0 : Int32) (M : zM) : Prop := Z E jX4_readNumber (D + 1) 0 (zQi post px) 107 0 [zU, zU] [.int s0] M
def w_X4_readNumber_71 (E : zEv) (D : Nat) (post : Int32 → zM → Prop) (px : String → zM → Prop)  (s0 : Int32) (M : zM) : Prop := Z E jX4_readNumber (D + 1) 0 (zQi post px) 71 0 [zU, zU] [.int s0] M
def w_X4_readNumber_35 (E : zEv) (D : Nat) (post : Int32 → zM → Prop) (px : String → zM → Prop)  (s0 : Int32) (M : zM) : Prop := Z E jX4_readNumber (D + 1) 0 (zQi post px) 35 0 [zU, zU] [.int s0] M
theorem e_X4_readNumber {E : zEv} {D : Nat} {post : Int32 → zM → Prop} {px : String → zM → Prop} {M : zM}   (h : zCi E jX9_isWord D 0 [.ref 20, .ref (271 + 12)] M (fun r3 M1 => ((r3 = 0 → zCi E jX9_isWord D 0 [.ref 20, .ref (271 + 13)] M1 (fun r9 M7 => ((r9 = 0 → zCi E jX9_isWord D 0 [.ref 20, .ref (271 + 14)] M7 (fun r15 M13 => ((r15 = 0 → zCi E jX9_isWord D 0 [.ref 20, .ref (271 + 15)] M13 (fun r21 M19 => ((r21 = 0 → post (0 : Int32) M19) ∧ (¬ r21 = 0 → zCi E jX9_takeNumberAfter D 0 [.ref 20, .ref (271 + 15), .int (0 : Int32), .int (999 : Int32)] M19 (fun r27 M25 => ∀ M28 : zM, M28 = zup M25 75 14 r27 → (((M28.1 75 14) = (-1 : Int32) → w_X4_readNumber_144 E D post px (0 : Int32) M28) ∧ (¬ (M28.1 75 14) = (-1 : Int32) → w_X4_readNumber_144 E D post px (1 : Int32) M28))) px))) px) ∧ (¬ r15 = 0 → zCi E jX9_takeNumberAfter D 0 [.ref 20, .ref (271 + 14), .int (0 : Int32), .int (100 : Int32)] M13 (fun r35 M33 => ∀ M36 : zM, M36 = zup M33 75 13 r35 → (((M36.1 75 13) = (-1 : Int32) → w_X4_readNumber_107 E D post px (0 : Int32) M36) ∧ (¬ (M36.1 75 13) = (-1 : Int32) → w_X4_readNumber_107 E D post px (1 : Int32) M36))) px))) px) ∧ (¬ r9 = 0 → zCi E jX9_takeNumberAfter D 0 [.ref 20, .ref (271 + 13), .int (0 : Int32), .int (100 : Int32)] M7 (fun r43 M41 => ∀ M44 : zM, M44 = zup M41 75 12 r43 → (((M44.1 75 12) = (-1 : Int32) → w_X4_readNumber_71 E D post px (0 : Int32) M44) ∧ (¬ (M44.1 75 12) = (-1 : Int32) → w_X4_readNumber_71 E D post px (1 : Int32) M44))) px))) px) ∧ (¬ r3 = 0 → zCi E jX9_takeNumberAfter D 0 [.ref 20, .ref (271 + 12), .int (0 : Int32), .int (9 : Int32)] M1 (fun r51 M49 => ∀ M52 : zM, M52 = zup M49 75 11 r51 → (((M52.1 75 11) = (-1 : Int32) → w_X4_readNumber_35 E D post px (0 : Int32) M52) ∧ (¬ (M52.1 75 11) = (-1 : Int32) → w_X4_readNumber_35 E D post px (1 : Int32) M52))) px))) px) : zCi E jX4_readNumber (D + 1) 0 [.ref 20, .ref 75] M post px := by
  refine z_meth (by decide) (Nat.le_of_ble_eq_true rfl) ?_
  show Z E jX4_readNumber (D + 1) 0 (zQi post px) 0 0 [.ref 20, .ref 75] [] M
  refine z_aload_n dX4_readNumber_0 rfl ?_
  refine z_ldcS (i := 12) dX4_readNumber_1 rfl ?_
  refine z_callVi (As := [.ref (271 + 12)]) (st := []) dX4_readNumber_3 zi_X4_30 rfl rfl zs_20 rfl rfl (Nat.le_of_ble_eq_true rfl) (by decide) (fun _ _ hx => hx) h ?_
  intro r3 M1 h2
  refine z_if_eq (tgt := 36) dX4_readNumber_6 (by decide) (fun g4 => ?_) (fun g4 => ?_)
  · have h5 := h2.1 g4
    refine z_aload_n dX4_readNumber_36 rfl ?_
    refine z_ldcS (i := 13) dX4_readNumber_37 rfl ?_
    refine z_callVi (As := [.ref (271 + 13)]) (st := []) dX4_readNumber_39 zi_X4_30 rfl rfl zs_20 rfl rfl (Nat.le_of_ble_eq_true rfl) (by decide) (fun _ _ hx => hx) h5 ?_
    intro r9 M7 h8
    refine z_if_eq (tgt := 72) dX4_readNumber_42 (by decide) (fun g10 => ?_) (fun g10 => ?_)
    · have h11 := h8.1 g10
      refine z_aload_n dX4_readNumber_72 rfl ?_
      refine z_ldcS (i := 14) dX4_readNumber_73 rfl ?_
      refine z_callVi (As := [.ref (271 + 14)]) (st := []) dX4_readNumber_75 zi_X4_30 rfl rfl zs_20 rfl rfl (Nat.le_of_ble_eq_true rfl) (by decide) (fun _ _ hx => hx) h11 ?_
      intro r15 M13 h14
      refine z_if_eq (tgt := 108) dX4_readNumber_78 (by decide) (fun g16 => ?_) (fun g16 => ?_)
      · have h17 := h14.1 g16
        refine z_aload_n dX4_readNumber_108 rfl ?_
        refine z_ldcS (i := 15) dX4_readNumber_109 rfl ?_
        refine z_callVi (As := [.ref (271 + 15)]) (st := []) dX4_readNumber_111 zi_X4_30 rfl rfl zs_20 rfl rfl (Nat.le_of_ble_eq_true rfl) (by decide) (fun _ _ hx => hx) h17 ?_
        intro r21 M19 h20
        refine z_if_eq (tgt := 145) dX4_readNumber_114 (by decide) (fun g22 => ?_) (fun g22 => ?_)
        · have h23 := h20.1 g22
          refine z_iconst (v := (0 : Int32)) dX4_readNumber_145 rfl ?_
          exact z_iret dX4_readNumber_146 rfl (by decide) (by decide) h23
        · have h24 := h20.2 g22
          refine z_aload_n dX4_readNumber_117 rfl ?_
          refine z_aload_n dX4_readNumber_118 rfl ?_
          refine z_ldcS (i := 15) dX4_readNumber_119 rfl ?_
          refine z_iconst (v := (0 : Int32)) dX4_readNumber_121 rfl ?_
          refine z_sipush (v := (999 : Int32)) dX4_readNumber_122 rfl ?_
          refine z_callVi (As := [.ref (271 + 15), .int (0 : Int32), .int (999 : Int32)]) (st := [.ref 75]) dX4_readNumber_125 zi_X4_79 rfl rfl zs_20 rfl rfl (Nat.le_of_ble_eq_true rfl) (by decide) (fun _ _ hx => hx) h24 ?_
          intro r27 M25 h26
          refine z_putI dX4_readNumber_128 zp_X4_96 zs_75 rfl rfl rfl ?_
          generalize hhM28 : zup M25 75 14 r27 = M28
          have h29 := h26 M28 hhM28.symm
          refine z_aload_n dX4_readNumber_131 rfl ?_
          refine z_getI dX4_readNumber_132 zg_X4_96 zs_75 rfl ?_
          refine z_iconst (v := (-1 : Int32)) dX4_readNumber_135 rfl ?_
          refine z_icmp_eq (tgt := 143) dX4_readNumber_136 (by decide) (fun g30 => ?_) (fun g30 => ?_)
          · have h31 := h29.1 g30
            refine z_iconst (v := (0 : Int32)) dX4_readNumber_143 rfl ?_
            refine z_weak [false, false] (ls' := [zU, zU]) rfl rfl ?_
            exact h31
          · have h32 := h29.2 g30
            refine z_iconst (v := (1 : Int32)) dX4_readNumber_139 rfl ?_
            refine z_goto (tgt := 144) dX4_readNumber_140 (by decide) ?_
            refine z_weak [false, false] (ls' := [zU, zU]) rfl rfl ?_
            exact h32
      · have h18 := h14.2 g16
        refine z_aload_n dX4_readNumber_81 rfl ?_
        refine z_aload_n dX4_readNumber_82 rfl ?_
        refine z_ldcS (i := 14) dX4_readNumber_83 rfl ?_
        refine z_iconst (v := (0 : Int32)) dX4_readNumber_85 rfl ?_
        refine z_bipush (v := (100 : Int32)) dX4_readNumber_86 rfl ?_
        refine z_callVi (As := [.ref (271 + 14), .int (0 : Int32), .int (100 : Int32)]) (st := [.ref 75]) dX4_readNumber_88 zi_X4_79 rfl rfl zs_20 rfl rfl (Nat.le_of_ble_eq_true rfl) (by decide) (fun _ _ hx => hx) h18 ?_
        intro r35 M33 h34
        refine z_putI dX4_readNumber_91 zp_X4_92 zs_75 rfl rfl rfl ?_
        generalize hhM36 : zup M33 75 13 r35 = M36
        have h37 := h34 M36 hhM36.symm
        refine z_aload_n dX4_readNumber_94 rfl ?_
        refine z_getI dX4_readNumber_95 zg_X4_92 zs_75 rfl ?_
        refine z_iconst (v := (-1 : Int32)) dX4_readNumber_98 rfl ?_
        refine z_icmp_eq (tgt := 106) dX4_readNumber_99 (by decide) (fun g38 => ?_) (fun g38 => ?_)
        · have h39 := h37.1 g38
          refine z_iconst (v := (0 : Int32)) dX4_readNumber_106 rfl ?_
          refine z_weak [false, false] (ls' := [zU, zU]) rfl rfl ?_
          exact h39
        · have h40 := h37.2 g38
          refine z_iconst (v := (1 : Int32)) dX4_readNumber_102 rfl ?_
          refine z_goto (tgt := 107) dX4_readNumber_103 (by decide) ?_
          refine z_weak [false, false] (ls' := [zU, zU]) rfl rfl ?_
          exact h40
    · have h12 := h8.2 g10
      refine z_aload_n dX4_readNumber_45 rfl ?_
      refine z_aload_n dX4_readNumber_46 rfl ?_
      refine z_ldcS (i := 13) dX4_readNumber_47 rfl ?_
      refine z_iconst (v := (0 : Int32)) dX4_readNumber_49 rfl ?_
      refine z_bipush (v := (100 : Int32)) dX4_readNumber_50 rfl ?_
      refine z_callVi (As := [.ref (271 + 13), .int (0 : Int32), .int (100 : Int32)]) (st := [.ref 75]) dX4_readNumber_52 zi_X4_79 rfl rfl zs_20 rfl rfl (Nat.le_of_ble_eq_true rfl) (by decide) (fun _ _ hx => hx) h12 ?_
      intro r43 M41 h42
      refine z_putI dX4_readNumber_55 zp_X4_87 zs_75 rfl rfl rfl ?_
      generalize hhM44 : zup M41 75 12 r43 = M44
      have h45 := h42 M44 hhM44.symm
      refine z_aload_n dX4_readNumber_58 rfl ?_
      refine z_getI dX4_readNumber_59 zg_X4_87 zs_75 rfl ?_
      refine z_iconst (v := (-1 : Int32)) dX4_readNumber_62 rfl ?_
      refine z_icmp_eq (tgt := 70) dX4_readNumber_63 (by decide) (fun g46 => ?_) (fun g46 => ?_)
      · have h47 := h45.1 g46
        refine z_iconst (v := (0 : Int32)) dX4_readNumber_70 rfl ?_
        refine z_weak [false, false] (ls' := [zU, zU]) rfl rfl ?_
        exact h47
      · have h48 := h45.2 g46
        refine z_iconst (v := (1 : Int32)) dX4_readNumber_66 rfl ?_
        refine z_goto (tgt := 71) dX4_readNumber_67 (by decide) ?_
        refine z_weak [false, false] (ls' := [zU, zU]) rfl rfl ?_
        exact h48
  · have h6 := h2.2 g4
    refine z_aload_n dX4_readNumber_9 rfl ?_
    refine z_aload_n dX4_readNumber_10 rfl ?_
    refine z_ldcS (i := 12) dX4_readNumber_11 rfl ?_
    refine z_iconst (v := (0 : Int32)) dX4_readNumber_13 rfl ?_
    refine z_bipush (v := (9 : Int32)) dX4_readNumber_14 rfl ?_
    refine z_callVi (As := [.ref (271 + 12), .int (0 : Int32), .int (9 : Int32)]) (st := [.ref 75]) dX4_readNumber_16 zi_X4_79 rfl rfl zs_20 rfl rfl (Nat.le_of_ble_eq_true rfl) (by decide) (fun _ _ hx => hx) h6 ?_
    intro r51 M49 h50
    refine z_putI dX4_readNumber_19 zp_X4_83 zs_75 rfl rfl rfl ?_
    generalize hhM52 : zup M49 75 11 r51 = M52
    have h53 := h50 M52 hhM52.symm
    refine z_aload_n dX4_readNumber_22 rfl ?_
    refine z_getI dX4_readNumber_23 zg_X4_83 zs_75 rfl ?_
    refine z_iconst (v := (-1 : Int32)) dX4_readNumber_26 rfl ?_
    refine z_icmp_eq (tgt := 34) dX4_readNumber_27 (by decide) (fun g54 => ?_) (fun g54 => ?_)
    · have h55 := h53.1 g54
      refine z_iconst (v := (0 : Int32)) dX4_readNumber_34 rfl ?_
      refine z_weak [false, false] (ls' := [zU, zU]) rfl rfl ?_
      exact h55
    · have h56 := h53.2 g54
      refine z_iconst (v := (1 : Int32)) dX4_readNumber_30 rfl ?_
      refine z_goto (tgt := 35) dX4_readNumber_31 (by decide) ?_
      refine z_weak [false, false] (ls' := [zU, zU]) rfl rfl ?_
      exact h56
theorem t_X4_readNumber_144 {E : zEv} {D : Nat} {post : Int32 → zM → Prop} {px : String → zM → Prop} {M : zM}   {s0 : Int32} (h : (s0 = 0 ∨ s0 = 1) ∧ post s0 M) : w_X4_readNumber_144 E D post px s0 M := by
  show Z E jX4_readNumber (D + 1) 0 (zQi post px) 144 0 [zU, zU] [.int s0] M
  obtain ⟨g2, h1⟩ := h
  exact z_iret dX4_readNumber_144 rfl (zbool g2) (by decide) h1
theorem t_X4_readNumber_107 {E : zEv} {D : Nat} {post : Int32 → zM → Prop} {px : String → zM → Prop} {M : zM}   {s0 : Int32} (h : (s0 = 0 ∨ s0 = 1) ∧ post s0 M) : w_X4_readNumber_107 E D post px s0 M := by
  show Z E jX4_readNumber (D + 1) 0 (zQi post px) 107 0 [zU, zU] [.int s0] M
  obtain ⟨g2, h1⟩ := h
  exact z_iret dX4_readNumber_107 rfl (zbool g2) (by decide) h1
theorem t_X4_readNumber_71 {E : zEv} {D : Nat} {post : Int32 → zM → Prop} {px : String → zM → Prop} {M : zM}   {s0 : Int32} (h : (s0 = 0 ∨ s0 = 1) ∧ post s0 M) : w_X4_readNumber_71 E D post px s0 M := by
  show Z E jX4_readNumber (D + 1) 0 (zQi post px) 71 0 [zU, zU] [.int s0] M
  obtain ⟨g2, h1⟩ := h
  exact z_iret dX4_readNumber_71 rfl (zbool g2) (by decide) h1
theorem t_X4_readNumber_35 {E : zEv} {D : Nat} {post : Int32 → zM → Prop} {px : String → zM → Prop} {M : zM}   {s0 : Int32} (h : (s0 = 0 ∨ s0 = 1) ∧ post s0 M) : w_X4_readNumber_35 E D post px s0 M := by
  show Z E jX4_readNumber (D + 1) 0 (zQi post px) 35 0 [zU, zU] [.int s0] M
  obtain ⟨g2, h1⟩ := h
  exact z_iret dX4_readNumber_35 rfl (zbool g2) (by decide) h1
def w_X4_readWitness_32 (E : zEv) (D : Nat) (post : Int32 → zM → Prop) (px : String → zM → Prop)  (y2 : Int32) (s0 : Int32) (M : zM) : Prop := Z E jX4_readWitness (D + 1) 0 (zQi post px) 32 0 [.ref 20, .ref 76, .int y2, zU, zU, zU, zU] [.int s0] M
def w_X4_readWitness_62 (E : zEv) (D : Nat) (post : Int32 → zM → Prop) (px : String → zM → Prop)  (y2 : Int32) (y3 : Int32) (s0 : Int32) (M : zM) : Prop := Z E jX4_readWitness (D + 1) 0 (zQi post px) 62 0 [.ref 20, .ref 76, .int y2, .int y3, zU, zU, zU] [.int s0] M
def w_X4_readWitness_94 (E : zEv) (D : Nat) (post : Int32 → zM → Prop) (px : String → zM → Prop)  (y2 : Int32) (y3 : Int32) (y4 : Int32) (s0 : Int32) (M : zM) : Prop := Z E jX4_readWitness (D + 1) 0 (zQi post px) 94 0 [zU, .ref 76, .int y2, .int y3, .int y4, zU, zU] [.int s0] M
theorem e_X4_readWitness {E : zEv} {D : Nat} {post : Int32 → zM → Prop} {px : String → zM → Prop} {M : zM}   (h : zCv E jX9_advance D 0 [.ref 20] M (fun M1 => zCi E jX9_takeNumberAfter D 0 [.ref 20, .ref (271 + 1), .int (0 : Int32), .int (9 : Int32)] M1 (fun r5 M3 => ((¬ r5 = (-1 : Int32) → zCi E jX9_takeNumberAfter D 0 [.ref 20, .ref (271 + 2), .int (0 : Int32), .int (9 : Int32)] M3 (fun r11 M9 => w_X4_readWitness_32 E D post px r5 r11 M9) px) ∧ (r5 = (-1 : Int32) → w_X4_readWitness_32 E D post px r5 (-1 : Int32) M3))) px) px) : zCi E jX4_readWitness (D + 1) 0 [.ref 20, .ref 76] M post px := by
  refine z_meth (by decide) (Nat.le_of_ble_eq_true rfl) ?_
  show Z E jX4_readWitness (D + 1) 0 (zQi post px) 0 0 [.ref 20, .ref 76, zU, zU, zU, zU, zU] [] M
  refine z_aload_n dX4_readWitness_0 rfl ?_
  refine z_callVv (As := []) (st := []) dX4_readWitness_1 zi_X4_98 rfl rfl zs_20 rfl rfl (Nat.le_of_ble_eq_true rfl) (by decide) (fun _ _ hx => hx) h ?_
  intro M1 h2
  refine z_aload_n dX4_readWitness_4 rfl ?_
  refine z_ldcS (i := 1) dX4_readWitness_5 rfl ?_
  refine z_iconst (v := (0 : Int32)) dX4_readWitness_7 rfl ?_
  refine z_bipush (v := (9 : Int32)) dX4_readWitness_8 rfl ?_
  refine z_callVi (As := [.ref (271 + 1), .int (0 : Int32), .int (9 : Int32)]) (st := []) dX4_readWitness_10 zi_X4_79 rfl rfl zs_20 rfl rfl (Nat.le_of_ble_eq_true rfl) (by decide) (fun _ _ hx => hx) h2 ?_
  intro r5 M3 h4
  refine z_istore_n dX4_readWitness_13 (by decide) (ls' := [.ref 20, .ref 76, .int r5, zU, zU, zU, zU]) rfl ?_
  refine z_iload_n dX4_readWitness_14 rfl ?_
  refine z_iconst (v := (-1 : Int32)) dX4_readWitness_15 rfl ?_
  refine z_icmp_ne (tgt := 23) dX4_readWitness_16 (by decide) (fun g6 => ?_) (fun g6 => ?_)
  · have h7 := h4.1 g6
    refine z_aload_n dX4_readWitness_23 rfl ?_
    refine z_ldcS (i := 2) dX4_readWitness_24 rfl ?_
    refine z_iconst (v := (0 : Int32)) dX4_readWitness_26 rfl ?_
    refine z_bipush (v := (9 : Int32)) dX4_readWitness_27 rfl ?_
    refine z_callVi (As := [.ref (271 + 2), .int (0 : Int32), .int (9 : Int32)]) (st := []) dX4_readWitness_29 zi_X4_79 rfl rfl zs_20 rfl rfl (Nat.le_of_ble_eq_true rfl) (by decide) (fun _ _ hx => hx) h7 ?_
    intro r11 M9 h10
    exact h10
  · have h8 := h4.2 g6
    refine z_iconst (v := (-1 : Int32)) dX4_readWitness_19 rfl ?_
    refine z_goto (tgt := 32) dX4_readWitness_20 (by decide) ?_
    exact h8
theorem t_X4_readWitness_32 {E : zEv} {D : Nat} {post : Int32 → zM → Prop} {px : String → zM → Prop} {M : zM}   {y2 : Int32} {s0 : Int32} (h : ((¬ s0 = (-1 : Int32) → zCi E jX9_isWord D 0 [.ref 20, .ref (271 + 3)] M (fun r6 M4 => ((r6 = 0 → w_X4_readWitness_62 E D post px y2 s0 (0 : Int32) M4) ∧ (¬ r6 = 0 → zCi E jX9_takeNumberAfter D 0 [.ref 20, .ref (271 + 3), .int (0 : Int32), .int (99 : Int32)] M4 (fun r12 M10 => w_X4_readWitness_62 E D post px y2 s0 r12 M10) px))) px) ∧ (s0 = (-1 : Int32) → post (0 : Int32) M))) : w_X4_readWitness_32 E D post px y2 s0 M := by
  show Z E jX4_readWitness (D + 1) 0 (zQi post px) 32 0 [.ref 20, .ref 76, .int y2, zU, zU, zU, zU] [.int s0] M
  refine z_istore_n dX4_readWitness_32 (by decide) (ls' := [.ref 20, .ref 76, .int y2, .int s0, zU, zU, zU]) rfl ?_
  refine z_iload_n dX4_readWitness_33 rfl ?_
  refine z_iconst (v := (-1 : Int32)) dX4_readWitness_34 rfl ?_
  refine z_icmp_ne (tgt := 40) dX4_readWitness_35 (by decide) (fun g1 => ?_) (fun g1 => ?_)
  · have h2 := h.1 g1
    refine z_aload_n dX4_readWitness_40 rfl ?_
    refine z_ldcS (i := 3) dX4_readWitness_41 rfl ?_
    refine z_callVi (As := [.ref (271 + 3)]) (st := []) dX4_readWitness_43 zi_X4_30 rfl rfl zs_20 rfl rfl (Nat.le_of_ble_eq_true rfl) (by decide) (fun _ _ hx => hx) h2 ?_
    intro r6 M4 h5
    refine z_if_eq (tgt := 61) dX4_readWitness_46 (by decide) (fun g7 => ?_) (fun g7 => ?_)
    · have h8 := h5.1 g7
      refine z_iconst (v := (0 : Int32)) dX4_readWitness_61 rfl ?_
      exact h8
    · have h9 := h5.2 g7
      refine z_aload_n dX4_readWitness_49 rfl ?_
      refine z_ldcS (i := 3) dX4_readWitness_50 rfl ?_
      refine z_iconst (v := (0 : Int32)) dX4_readWitness_52 rfl ?_
      refine z_bipush (v := (99 : Int32)) dX4_readWitness_53 rfl ?_
      refine z_callVi (As := [.ref (271 + 3), .int (0 : Int32), .int (99 : Int32)]) (st := []) dX4_readWitness_55 zi_X4_79 rfl rfl zs_20 rfl rfl (Nat.le_of_ble_eq_true rfl) (by decide) (fun _ _ hx => hx) h9 ?_
      intro r12 M10 h11
      refine z_goto (tgt := 62) dX4_readWitness_58 (by decide) ?_
      exact h11
  · have h3 := h.2 g1
    refine z_iconst (v := (0 : Int32)) dX4_readWitness_38 rfl ?_
    exact z_iret dX4_readWitness_39 rfl (by decide) (by decide) h3
theorem t_X4_readWitness_62 {E : zEv} {D : Nat} {post : Int32 → zM → Prop} {px : String → zM → Prop} {M : zM}   {y2 : Int32} {y3 : Int32} {s0 : Int32} (h : ((¬ s0 = (-1 : Int32) → zCi E jX9_isWord D 0 [.ref 20, .ref (271 + 4)] M (fun r6 M4 => ((r6 = 0 → w_X4_readWitness_94 E D post px y2 y3 s0 (0 : Int32) M4) ∧ (¬ r6 = 0 → zCi E jX9_takeNumberAfter D 0 [.ref 20, .ref (271 + 4), .int (0 : Int32), .int (99 : Int32)] M4 (fun r12 M10 => w_X4_readWitness_94 E D post px y2 y3 s0 r12 M10) px))) px) ∧ (s0 = (-1 : Int32) → post (0 : Int32) M))) : w_X4_readWitness_62 E D post px y2 y3 s0 M := by
  show Z E jX4_readWitness (D + 1) 0 (zQi post px) 62 0 [.ref 20, .ref 76, .int y2, .int y3, zU, zU, zU] [.int s0] M
  refine z_istore dX4_readWitness_62 (by decide) (ls' := [.ref 20, .ref 76, .int y2, .int y3, .int s0, zU, zU]) rfl ?_
  refine z_iload dX4_readWitness_64 rfl ?_
  refine z_iconst (v := (-1 : Int32)) dX4_readWitness_66 rfl ?_
  refine z_icmp_ne (tgt := 72) dX4_readWitness_67 (by decide) (fun g1 => ?_) (fun g1 => ?_)
  · have h2 := h.1 g1
    refine z_aload_n dX4_readWitness_72 rfl ?_
    refine z_ldcS (i := 4) dX4_readWitness_73 rfl ?_
    refine z_callVi (As := [.ref (271 + 4)]) (st := []) dX4_readWitness_75 zi_X4_30 rfl rfl zs_20 rfl rfl (Nat.le_of_ble_eq_true rfl) (by decide) (fun _ _ hx => hx) h2 ?_
    intro r6 M4 h5
    refine z_if_eq (tgt := 93) dX4_readWitness_78 (by decide) (fun g7 => ?_) (fun g7 => ?_)
    · have h8 := h5.1 g7
      refine z_iconst (v := (0 : Int32)) dX4_readWitness_93 rfl ?_
      refine z_weak [false, true, true, true, true, false, false] (ls' := [zU, .ref 76, .int y2, .int y3, .int s0, zU, zU]) rfl rfl ?_
      exact h8
    · have h9 := h5.2 g7
      refine z_aload_n dX4_readWitness_81 rfl ?_
      refine z_ldcS (i := 4) dX4_readWitness_82 rfl ?_
      refine z_iconst (v := (0 : Int32)) dX4_readWitness_84 rfl ?_
      refine z_bipush (v := (99 : Int32)) dX4_readWitness_85 rfl ?_
      refine z_callVi (As := [.ref (271 + 4), .int (0 : Int32), .int (99 : Int32)]) (st := []) dX4_readWitness_87 zi_X4_79 rfl rfl zs_20 rfl rfl (Nat.le_of_ble_eq_true rfl) (by decide) (fun _ _ hx => hx) h9 ?_
      intro r12 M10 h11
      refine z_goto (tgt := 94) dX4_readWitness_90 (by decide) ?_
      refine z_weak [false, true, true, true, true, false, false] (ls' := [zU, .ref 76, .int y2, .int y3, .int s0, zU, zU]) rfl rfl ?_
      exact h11
  · have h3 := h.2 g1
    refine z_iconst (v := (0 : Int32)) dX4_readWitness_70 rfl ?_
    exact z_iret dX4_readWitness_71 rfl (by decide) (by decide) h3
theorem t_X4_readWitness_94 {E : zEv} {D : Nat} {post : Int32 → zM → Prop} {px : String → zM → Prop} {M : zM}   {y2 : Int32} {y3 : Int32} {y4 : Int32} {s0 : Int32} (h : ((¬ s0 = (-1 : Int32) → vp_in (M.1 76 6) 5 ∧ ∀ M6 : zM, M6 = zup M 77 ((M.1 76 6)).toNatClampNeg y2 → vp_in (M.1 76 6) 5 ∧ ∀ M10 : zM, M10 = zup M6 78 ((M.1 76 6)).toNatClampNeg y3 → vp_in (M.1 76 6) 5 ∧ ∀ M14 : zM, M14 = zup M10 79 ((M.1 76 6)).toNatClampNeg y4 → vp_in (M.1 76 6) 5 ∧ ∀ M18 : zM, M18 = zup M14 80 ((M.1 76 6)).toNatClampNeg s0 → vp_in (M.1 76 6) 5 ∧ ∀ M22 : zM, M22 = zup M18 81 ((M.1 76 6)).toNatClampNeg (M.1 76 6) → vp_in (M.1 76 6) 5 ∧ ∀ M26 : zM, M26 = zup M22 82 ((M.1 76 6)).toNatClampNeg (M.1 76 6) → ∀ M28 : zM, M28 = zup M26 76 6 ((M26.1 76 6) + (1 : Int32)) → post (1 : Int32) M28) ∧ (s0 = (-1 : Int32) → post (0 : Int32) M))) : w_X4_readWitness_94 E D post px y2 y3 y4 s0 M := by
  show Z E jX4_readWitness (D + 1) 0 (zQi post px) 94 0 [zU, .ref 76, .int y2, .int y3, .int y4, zU, zU] [.int s0] M
  refine z_istore dX4_readWitness_94 (by decide) (ls' := [zU, .ref 76, .int y2, .int y3, .int y4, .int s0, zU]) rfl ?_
  refine z_iload dX4_readWitness_96 rfl ?_
  refine z_iconst (v := (-1 : Int32)) dX4_readWitness_98 rfl ?_
  refine z_icmp_ne (tgt := 104) dX4_readWitness_99 (by decide) (fun g1 => ?_) (fun g1 => ?_)
  · have h2 := h.1 g1
    refine z_aload_n dX4_readWitness_104 rfl ?_
    refine z_getI dX4_readWitness_105 zg_X4_40 zs_76 rfl ?_
    refine z_istore dX4_readWitness_108 (by decide) (ls' := [zU, .ref 76, .int y2, .int y3, .int y4, .int s0, .int (M.1 76 6)]) rfl ?_
    refine z_aload_n dX4_readWitness_110 rfl ?_
    refine z_getR dX4_readWitness_111 zg_X4_109 zs_76 rfl ?_
    refine z_iload dX4_readWitness_114 rfl ?_
    refine z_iload_n dX4_readWitness_116 rfl ?_
    obtain ⟨g5, h4⟩ := h2
    refine z_iast dX4_readWitness_117 zs_77 g5 ?_
    generalize hhM6 : zup M 77 ((M.1 76 6)).toNatClampNeg y2 = M6
    have h7 := h4 M6 hhM6.symm
    refine z_aload_n dX4_readWitness_118 rfl ?_
    refine z_getR dX4_readWitness_119 zg_X4_112 zs_76 rfl ?_
    refine z_iload dX4_readWitness_122 rfl ?_
    refine z_iload_n dX4_readWitness_124 rfl ?_
    obtain ⟨g9, h8⟩ := h7
    refine z_iast dX4_readWitness_125 zs_78 g9 ?_
    generalize hhM10 : zup M6 78 ((M.1 76 6)).toNatClampNeg y3 = M10
    have h11 := h8 M10 hhM10.symm
    refine z_aload_n dX4_readWitness_126 rfl ?_
    refine z_getR dX4_readWitness_127 zg_X4_114 zs_76 rfl ?_
    refine z_iload dX4_readWitness_130 rfl ?_
    refine z_iload dX4_readWitness_132 rfl ?_
    obtain ⟨g13, h12⟩ := h11
    refine z_iast dX4_readWitness_134 zs_79 g13 ?_
    generalize hhM14 : zup M10 79 ((M.1 76 6)).toNatClampNeg y4 = M14
    have h15 := h12 M14 hhM14.symm
    refine z_aload_n dX4_readWitness_135 rfl ?_
    refine z_getR dX4_readWitness_136 zg_X4_116 zs_76 rfl ?_
    refine z_iload dX4_readWitness_139 rfl ?_
    refine z_iload dX4_readWitness_141 rfl ?_
    obtain ⟨g17, h16⟩ := h15
    refine z_iast dX4_readWitness_143 zs_80 g17 ?_
    generalize hhM18 : zup M14 80 ((M.1 76 6)).toNatClampNeg s0 = M18
    have h19 := h16 M18 hhM18.symm
    refine z_aload_n dX4_readWitness_144 rfl ?_
    refine z_getR dX4_readWitness_145 zg_X4_118 zs_76 rfl ?_
    refine z_iload dX4_readWitness_148 rfl ?_
    refine z_iload dX4_readWitness_150 rfl ?_
    obtain ⟨g21, h20⟩ := h19
    refine z_iast dX4_readWitness_152 zs_81 g21 ?_
    generalize hhM22 : zup M18 81 ((M.1 76 6)).toNatClampNeg (M.1 76 6) = M22
    have h23 := h20 M22 hhM22.symm
    refine z_aload_n dX4_readWitness_153 rfl ?_
    refine z_getR dX4_readWitness_154 zg_X4_121 zs_76 rfl ?_
    refine z_iload dX4_readWitness_157 rfl ?_
    refine z_iload dX4_readWitness_159 rfl ?_
    obtain ⟨g25, h24⟩ := h23
    refine z_iast dX4_readWitness_161 zs_82 g25 ?_
    generalize hhM26 : zup M22 82 ((M.1 76 6)).toNatClampNeg (M.1 76 6) = M26
    have h27 := h24 M26 hhM26.symm
    refine z_aload_n dX4_readWitness_162 rfl ?_
    refine z_dup dX4_readWitness_163 rfl ?_
    refine z_getI dX4_readWitness_164 zg_X4_40 zs_76 rfl ?_
    refine z_iconst (v := (1 : Int32)) dX4_readWitness_167 rfl ?_
    refine z_iadd dX4_readWitness_168 ?_
    refine z_putI dX4_readWitness_169 zp_X4_40 zs_76 rfl rfl rfl ?_
    generalize hhM28 : zup M26 76 6 ((M26.1 76 6) + (1 : Int32)) = M28
    have h29 := h27 M28 hhM28.symm
    refine z_iconst (v := (1 : Int32)) dX4_readWitness_172 rfl ?_
    exact z_iret dX4_readWitness_173 rfl (by decide) (by decide) h29
  · have h3 := h.2 g1
    refine z_iconst (v := (0 : Int32)) dX4_readWitness_102 rfl ?_
    exact z_iret dX4_readWitness_103 rfl (by decide) (by decide) h3
def w_X4_readThing_45 (E : zEv) (D : Nat) (post : Int32 → zM → Prop) (px : String → zM → Prop)  (y2 : Int32) (s0 : Int32) (M : zM) : Prop := Z E jX4_readThing (D + 1) 0 (zQi post px) 45 0 [.ref 20, .ref 75, .int y2, zU, zU, zU] [.int s0] M
def w_X4_readThing_73 (E : zEv) (D : Nat) (post : Int32 → zM → Prop) (px : String → zM → Prop)  (y2 : Int32) (y3 : Int32) (y4 : Int32) (s0 : Int32) (M : zM) : Prop := Z E jX4_readThing (D + 1) 0 (zQi post px) 73 0 [zU, .ref 75, .int y2, .int y3, .int y4, zU] [.int s0] M
theorem e_X4_readThing {E : zEv} {D : Nat} {post : Int32 → zM → Prop} {px : String → zM → Prop} {M : zM}   (h : zCv E jX9_advance D 0 [.ref 20] M (fun M1 => zCi E jX9_takeNumberAfter D 0 [.ref 20, .ref (271 + 6), .int (1 : Int32), .int (9 : Int32)] M1 (fun r5 M3 => ((¬ r5 = (-1 : Int32) → zCi E jX9_takeWord D 0 [.ref 20, .ref (271 + 7)] M3 (fun r11 M9 => ((r11 = 0 → w_X4_readThing_45 E D post px r5 (0 : Int32) M9) ∧ (¬ r11 = 0 → zCi E jX9_takeLetters D 0 [.ref 20, .int (M9.1 76 6)] M9 (fun r17 M15 => w_X4_readThing_45 E D post px r5 r17 M15) px))) px) ∧ (r5 = (-1 : Int32) → post (0 : Int32) M3))) px) px) : zCi E jX4_readThing (D + 1) 0 [.ref 20, .ref 75] M post px := by
  refine z_meth (by decide) (Nat.le_of_ble_eq_true rfl) ?_
  show Z E jX4_readThing (D + 1) 0 (zQi post px) 0 0 [.ref 20, .ref 75, zU, zU, zU, zU] [] M
  refine z_aload_n dX4_readThing_0 rfl ?_
  refine z_callVv (As := []) (st := []) dX4_readThing_1 zi_X4_98 rfl rfl zs_20 rfl rfl (Nat.le_of_ble_eq_true rfl) (by decide) (fun _ _ hx => hx) h ?_
  intro M1 h2
  refine z_aload_n dX4_readThing_4 rfl ?_
  refine z_ldcS (i := 6) dX4_readThing_5 rfl ?_
  refine z_iconst (v := (1 : Int32)) dX4_readThing_7 rfl ?_
  refine z_bipush (v := (9 : Int32)) dX4_readThing_8 rfl ?_
  refine z_callVi (As := [.ref (271 + 6), .int (1 : Int32), .int (9 : Int32)]) (st := []) dX4_readThing_10 zi_X4_79 rfl rfl zs_20 rfl rfl (Nat.le_of_ble_eq_true rfl) (by decide) (fun _ _ hx => hx) h2 ?_
  intro r5 M3 h4
  refine z_istore_n dX4_readThing_13 (by decide) (ls' := [.ref 20, .ref 75, .int r5, zU, zU, zU]) rfl ?_
  refine z_iload_n dX4_readThing_14 rfl ?_
  refine z_iconst (v := (-1 : Int32)) dX4_readThing_15 rfl ?_
  refine z_icmp_ne (tgt := 21) dX4_readThing_16 (by decide) (fun g6 => ?_) (fun g6 => ?_)
  · have h7 := h4.1 g6
    refine z_aload_n dX4_readThing_21 rfl ?_
    refine z_ldcS (i := 7) dX4_readThing_22 rfl ?_
    refine z_callVi (As := [.ref (271 + 7)]) (st := []) dX4_readThing_24 zi_X4_128 rfl rfl zs_20 rfl rfl (Nat.le_of_ble_eq_true rfl) (by decide) (fun _ _ hx => hx) h7 ?_
    intro r11 M9 h10
    refine z_if_eq (tgt := 44) dX4_readThing_27 (by decide) (fun g12 => ?_) (fun g12 => ?_)
    · have h13 := h10.1 g12
      refine z_iconst (v := (0 : Int32)) dX4_readThing_44 rfl ?_
      exact h13
    · have h14 := h10.2 g12
      refine z_aload_n dX4_readThing_30 rfl ?_
      refine z_aload_n dX4_readThing_31 rfl ?_
      refine z_getR dX4_readThing_32 zg_X4_34 zs_75 rfl ?_
      refine z_getI dX4_readThing_35 zg_X4_40 zs_76 rfl ?_
      refine z_callVi (As := [.int (M9.1 76 6)]) (st := []) dX4_readThing_38 zi_X4_131 rfl rfl zs_20 rfl rfl (Nat.le_of_ble_eq_true rfl) (by decide) (fun _ _ hx => hx) h14 ?_
      intro r17 M15 h16
      refine z_goto (tgt := 45) dX4_readThing_41 (by decide) ?_
      exact h16
  · have h8 := h4.2 g6
    refine z_iconst (v := (0 : Int32)) dX4_readThing_19 rfl ?_
    exact z_iret dX4_readThing_20 rfl (by decide) (by decide) h8
theorem t_X4_readThing_45 {E : zEv} {D : Nat} {post : Int32 → zM → Prop} {px : String → zM → Prop} {M : zM}   {y2 : Int32} {s0 : Int32} (h : ((¬ s0 = (-1 : Int32) → zCi E jX9_takeWord D 0 [.ref 20, .ref (271 + 8)] M (fun r6 M4 => ((r6 = 0 → w_X4_readThing_73 E D post px y2 s0 (M.1 75 6) (0 : Int32) M4) ∧ (¬ r6 = 0 → w_X4_readThing_73 E D post px y2 s0 (M.1 75 6) (1 : Int32) M4))) px) ∧ (s0 = (-1 : Int32) → post (0 : Int32) M))) : w_X4_readThing_45 E D post px y2 s0 M := by
  show Z E jX4_readThing (D + 1) 0 (zQi post px) 45 0 [.ref 20, .ref 75, .int y2, zU, zU, zU] [.int s0] M
  refine z_istore_n dX4_readThing_45 (by decide) (ls' := [.ref 20, .ref 75, .int y2, .int s0, zU, zU]) rfl ?_
  refine z_iload_n dX4_readThing_46 rfl ?_
  refine z_iconst (v := (-1 : Int32)) dX4_readThing_47 rfl ?_
  refine z_icmp_ne (tgt := 53) dX4_readThing_48 (by decide) (fun g1 => ?_) (fun g1 => ?_)
  · have h2 := h.1 g1
    refine z_aload_n dX4_readThing_53 rfl ?_
    refine z_getI dX4_readThing_54 zg_X4_52 zs_75 rfl ?_
    refine z_istore dX4_readThing_57 (by decide) (ls' := [.ref 20, .ref 75, .int y2, .int s0, .int (M.1 75 6), zU]) rfl ?_
    refine z_aload_n dX4_readThing_59 rfl ?_
    refine z_ldcS (i := 8) dX4_readThing_60 rfl ?_
    refine z_callVi (As := [.ref (271 + 8)]) (st := []) dX4_readThing_62 zi_X4_128 rfl rfl zs_20 rfl rfl (Nat.le_of_ble_eq_true rfl) (by decide) (fun _ _ hx => hx) h2 ?_
    intro r6 M4 h5
    refine z_if_eq (tgt := 72) dX4_readThing_65 (by decide) (fun g7 => ?_) (fun g7 => ?_)
    · have h8 := h5.1 g7
      refine z_iconst (v := (0 : Int32)) dX4_readThing_72 rfl ?_
      refine z_weak [false, true, true, true, true, false] (ls' := [zU, .ref 75, .int y2, .int s0, .int (M.1 75 6), zU]) rfl rfl ?_
      exact h8
    · have h9 := h5.2 g7
      refine z_iconst (v := (1 : Int32)) dX4_readThing_68 rfl ?_
      refine z_goto (tgt := 73) dX4_readThing_69 (by decide) ?_
      refine z_weak [false, true, true, true, true, false] (ls' := [zU, .ref 75, .int y2, .int s0, .int (M.1 75 6), zU]) rfl rfl ?_
      exact h9
  · have h3 := h.2 g1
    refine z_iconst (v := (0 : Int32)) dX4_readThing_51 rfl ?_
    exact z_iret dX4_readThing_52 rfl (by decide) (by decide) h3
theorem t_X4_readThing_73 {E : zEv} {D : Nat} {post : Int32 → zM → Prop} {px : String → zM → Prop} {M : zM}   {y2 : Int32} {y3 : Int32} {y4 : Int32} {s0 : Int32} (h : vp_in y4 6 ∧ ∀ M3 : zM, M3 = zup M 85 (y4).toNatClampNeg y2 → vp_in y4 6 ∧ ∀ M7 : zM, M7 = zup M3 86 (y4).toNatClampNeg y3 → ∀ M9 : zM, M9 = zup M7 75 10 ((M7.1 75 10) ||| (s0 <<< (y4 &&& 31))) → ∀ M11 : zM, M11 = zup M9 75 6 ((M9.1 75 6) + (1 : Int32)) → post (1 : Int32) M11) : w_X4_readThing_73 E D post px y2 y3 y4 s0 M := by
  show Z E jX4_readThing (D + 1) 0 (zQi post px) 73 0 [zU, .ref 75, .int y2, .int y3, .int y4, zU] [.int s0] M
  refine z_istore dX4_readThing_73 (by decide) (ls' := [zU, .ref 75, .int y2, .int y3, .int y4, .int s0]) rfl ?_
  refine z_aload_n dX4_readThing_75 rfl ?_
  refine z_getR dX4_readThing_76 zg_X4_137 zs_75 rfl ?_
  refine z_iload dX4_readThing_79 rfl ?_
  refine z_iload_n dX4_readThing_81 rfl ?_
  obtain ⟨g2, h1⟩ := h
  refine z_iast dX4_readThing_82 zs_85 g2 ?_
  generalize hhM3 : zup M 85 (y4).toNatClampNeg y2 = M3
  have h4 := h1 M3 hhM3.symm
  refine z_aload_n dX4_readThing_83 rfl ?_
  refine z_getR dX4_readThing_84 zg_X4_139 zs_75 rfl ?_
  refine z_iload dX4_readThing_87 rfl ?_
  refine z_iload_n dX4_readThing_89 rfl ?_
  obtain ⟨g6, h5⟩ := h4
  refine z_iast dX4_readThing_90 zs_86 g6 ?_
  generalize hhM7 : zup M3 86 (y4).toNatClampNeg y3 = M7
  have h8 := h5 M7 hhM7.symm
  refine z_aload_n dX4_readThing_91 rfl ?_
  refine z_dup dX4_readThing_92 rfl ?_
  refine z_getI dX4_readThing_93 zg_X4_141 zs_75 rfl ?_
  refine z_iload dX4_readThing_96 rfl ?_
  refine z_iload dX4_readThing_98 rfl ?_
  refine z_ishl dX4_readThing_100 ?_
  refine z_ior dX4_readThing_101 ?_
  refine z_putI dX4_readThing_102 zp_X4_141 zs_75 rfl rfl rfl ?_
  generalize hhM9 : zup M7 75 10 ((M7.1 75 10) ||| (s0 <<< (y4 &&& 31))) = M9
  have h10 := h8 M9 hhM9.symm
  refine z_aload_n dX4_readThing_105 rfl ?_
  refine z_dup dX4_readThing_106 rfl ?_
  refine z_getI dX4_readThing_107 zg_X4_52 zs_75 rfl ?_
  refine z_iconst (v := (1 : Int32)) dX4_readThing_110 rfl ?_
  refine z_iadd dX4_readThing_111 ?_
  refine z_putI dX4_readThing_112 zp_X4_52 zs_75 rfl rfl rfl ?_
  generalize hhM11 : zup M9 75 6 ((M9.1 75 6) + (1 : Int32)) = M11
  have h12 := h10 M11 hhM11.symm
  refine z_iconst (v := (1 : Int32)) dX4_readThing_115 rfl ?_
  exact z_iret dX4_readThing_116 rfl (by decide) (by decide) h12
theorem e_X4_readQuestion {E : zEv} {D : Nat} {post : Int32 → zM → Prop} {px : String → zM → Prop} {M : zM}   (h : zCv E jX9_advance D 0 [.ref 20] M (fun M1 => zCi E jX9_takeLetters D 0 [.ref 20, .int (M1.1 75 6)] M1 (fun r5 M3 => ((¬ r5 = (-1 : Int32) → vp_in (M3.1 75 7) 8 ∧ ∀ M11 : zM, M11 = zup M3 87 ((M3.1 75 7)).toNatClampNeg r5 → ∀ M13 : zM, M13 = zup M11 75 7 ((M11.1 75 7) + (1 : Int32)) → post (1 : Int32) M13) ∧ (r5 = (-1 : Int32) → post (0 : Int32) M3))) px) px) : zCi E jX4_readQuestion (D + 1) 0 [.ref 20, .ref 75] M post px := by
  refine z_meth (by decide) (Nat.le_of_ble_eq_true rfl) ?_
  show Z E jX4_readQuestion (D + 1) 0 (zQi post px) 0 0 [.ref 20, .ref 75, zU] [] M
  refine z_aload_n dX4_readQuestion_0 rfl ?_
  refine z_callVv (As := []) (st := []) dX4_readQuestion_1 zi_X4_98 rfl rfl zs_20 rfl rfl (Nat.le_of_ble_eq_true rfl) (by decide) (fun _ _ hx => hx) h ?_
  intro M1 h2
  refine z_aload_n dX4_readQuestion_4 rfl ?_
  refine z_aload_n dX4_readQuestion_5 rfl ?_
  refine z_getI dX4_readQuestion_6 zg_X4_52 zs_75 rfl ?_
  refine z_callVi (As := [.int (M1.1 75 6)]) (st := []) dX4_readQuestion_9 zi_X4_131 rfl rfl zs_20 rfl rfl (Nat.le_of_ble_eq_true rfl) (by decide) (fun _ _ hx => hx) h2 ?_
  intro r5 M3 h4
  refine z_istore_n dX4_readQuestion_12 (by decide) (ls' := [.ref 20, .ref 75, .int r5]) rfl ?_
  refine z_iload_n dX4_readQuestion_13 rfl ?_
  refine z_iconst (v := (-1 : Int32)) dX4_readQuestion_14 rfl ?_
  refine z_icmp_ne (tgt := 20) dX4_readQuestion_15 (by decide) (fun g6 => ?_) (fun g6 => ?_)
  · have h7 := h4.1 g6
    refine z_aload_n dX4_readQuestion_20 rfl ?_
    refine z_getR dX4_readQuestion_21 zg_X4_143 zs_75 rfl ?_
    refine z_aload_n dX4_readQuestion_24 rfl ?_
    refine z_getI dX4_readQuestion_25 zg_X4_60 zs_75 rfl ?_
    refine z_iload_n dX4_readQuestion_28 rfl ?_
    obtain ⟨g10, h9⟩ := h7
    refine z_iast dX4_readQuestion_29 zs_87 g10 ?_
    generalize hhM11 : zup M3 87 ((M3.1 75 7)).toNatClampNeg r5 = M11
    have h12 := h9 M11 hhM11.symm
    refine z_aload_n dX4_readQuestion_30 rfl ?_
    refine z_dup dX4_readQuestion_31 rfl ?_
    refine z_getI dX4_readQuestion_32 zg_X4_60 zs_75 rfl ?_
    refine z_iconst (v := (1 : Int32)) dX4_readQuestion_35 rfl ?_
    refine z_iadd dX4_readQuestion_36 ?_
    refine z_putI dX4_readQuestion_37 zp_X4_60 zs_75 rfl rfl rfl ?_
    generalize hhM13 : zup M11 75 7 ((M11.1 75 7) + (1 : Int32)) = M13
    have h14 := h12 M13 hhM13.symm
    refine z_iconst (v := (1 : Int32)) dX4_readQuestion_40 rfl ?_
    exact z_iret dX4_readQuestion_41 rfl (by decide) (by decide) h14
  · have h8 := h4.2 g6
    refine z_iconst (v := (0 : Int32)) dX4_readQuestion_18 rfl ?_
    exact z_iret dX4_readQuestion_19 rfl (by decide) (by decide) h8
theorem e_X4_readWoman {E : zEv} {D : Nat} {post : Int32 → zM → Prop} {px : String → zM → Prop} {M : zM}   (h : zCv E jX9_advance D 0 [.ref 20] M (fun M1 => zCi E jX9_takeNumberAfter D 0 [.ref 20, .ref (271 + 11), .int (1 : Int32), .int (20 : Int32)] M1 (fun r5 M3 => ((¬ r5 = (-1 : Int32) → vp_in (M3.1 75 8) 4 ∧ ∀ M11 : zM, M11 = zup M3 88 ((M3.1 75 8)).toNatClampNeg r5 → ∀ M13 : zM, M13 = zup M11 75 8 ((M11.1 75 8) + (1 : Int32)) → post (1 : Int32) M13) ∧ (r5 = (-1 : Int32) → post (0 : Int32) M3))) px) px) : zCi E jX4_readWoman (D + 1) 0 [.ref 20, .ref 75] M post px := by
  refine z_meth (by decide) (Nat.le_of_ble_eq_true rfl) ?_
  show Z E jX4_readWoman (D + 1) 0 (zQi post px) 0 0 [.ref 20, .ref 75, zU] [] M
  refine z_aload_n dX4_readWoman_0 rfl ?_
  refine z_callVv (As := []) (st := []) dX4_readWoman_1 zi_X4_98 rfl rfl zs_20 rfl rfl (Nat.le_of_ble_eq_true rfl) (by decide) (fun _ _ hx => hx) h ?_
  intro M1 h2
  refine z_aload_n dX4_readWoman_4 rfl ?_
  refine z_ldcS (i := 11) dX4_readWoman_5 rfl ?_
  refine z_iconst (v := (1 : Int32)) dX4_readWoman_7 rfl ?_
  refine z_bipush (v := (20 : Int32)) dX4_readWoman_8 rfl ?_
  refine z_callVi (As := [.ref (271 + 11), .int (1 : Int32), .int (20 : Int32)]) (st := []) dX4_readWoman_10 zi_X4_79 rfl rfl zs_20 rfl rfl (Nat.le_of_ble_eq_true rfl) (by decide) (fun _ _ hx => hx) h2 ?_
  intro r5 M3 h4
  refine z_istore_n dX4_readWoman_13 (by decide) (ls' := [.ref 20, .ref 75, .int r5]) rfl ?_
  refine z_iload_n dX4_readWoman_14 rfl ?_
  refine z_iconst (v := (-1 : Int32)) dX4_readWoman_15 rfl ?_
  refine z_icmp_ne (tgt := 21) dX4_readWoman_16 (by decide) (fun g6 => ?_) (fun g6 => ?_)
  · have h7 := h4.1 g6
    refine z_aload_n dX4_readWoman_21 rfl ?_
    refine z_getR dX4_readWoman_22 zg_X4_148 zs_75 rfl ?_
    refine z_aload_n dX4_readWoman_25 rfl ?_
    refine z_getI dX4_readWoman_26 zg_X4_68 zs_75 rfl ?_
    refine z_iload_n dX4_readWoman_29 rfl ?_
    obtain ⟨g10, h9⟩ := h7
    refine z_iast dX4_readWoman_30 zs_88 g10 ?_
    generalize hhM11 : zup M3 88 ((M3.1 75 8)).toNatClampNeg r5 = M11
    have h12 := h9 M11 hhM11.symm
    refine z_aload_n dX4_readWoman_31 rfl ?_
    refine z_dup dX4_readWoman_32 rfl ?_
    refine z_getI dX4_readWoman_33 zg_X4_68 zs_75 rfl ?_
    refine z_iconst (v := (1 : Int32)) dX4_readWoman_36 rfl ?_
    refine z_iadd dX4_readWoman_37 ?_
    refine z_putI dX4_readWoman_38 zp_X4_68 zs_75 rfl rfl rfl ?_
    generalize hhM13 : zup M11 75 8 ((M11.1 75 8) + (1 : Int32)) = M13
    have h14 := h12 M13 hhM13.symm
    refine z_iconst (v := (1 : Int32)) dX4_readWoman_41 rfl ?_
    exact z_iret dX4_readWoman_42 rfl (by decide) (by decide) h14
  · have h8 := h4.2 g6
    refine z_iconst (v := (0 : Int32)) dX4_readWoman_19 rfl ?_
    exact z_iret dX4_readWoman_20 rfl (by decide) (by decide) h8
