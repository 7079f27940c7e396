def w_J6_numberOfTrailingZeros_0f7a4_34 (E : zEv) (D : Nat) (post : Int32 → zM → Prop) (px : String → zM → Prop)  (y0 : Int32) (y1 : Int32) (M : zM) : Prop := Z E jJ6_numberOfTrailingZeros_0f7a4 D 0 (zQi post px) 34 0 [.int y0, .int y1] [] M
def w_J6_numberOfTrailingZeros_0f7a4_49 (E : zEv) (D : Nat) (post : Int32 → zM → Prop) (px : String → zM → Prop)  (y0 : Int32) (y1 : Int32) (M : zM) : Prop := Z E jJ6_numberOfTrailingZeros_0f7a4 D 0 (zQi post px) 49 0 [.int y0, .int y1] [] M
def w_J6_numberOfTrailingZeros_0f7a4_62 (E : zEv) (D : Nat) (post : Int32 → zM → Prop) (px : String → zM → Prop)  (y0 : Int32) (y1 : Int32) (M : zM) : Prop := Z E jJ6_numberOfTrailingZeros_0f7a4 D 0 (zQi post px) 62 0 [.int y0, .int y1] [] M
def w_J6_numberOfTrailingZeros_0f7a4_74 (E : zEv) (D : Nat) (post : Int32 → zM → Prop) (px : String → zM → Prop)  (y0 : Int32) (y1 : Int32) (M : zM) : Prop := Z E jJ6_numberOfTrailingZeros_0f7a4 D 0 (zQi post px) 74 0 [.int y0, .int y1] [] M
theorem e_J6_numberOfTrailingZeros_0f7a4 {E : zEv} {D : Nat} {post : Int32 → zM → Prop} {px : String → zM → Prop} {M : zM} {x1 : Int32}  (h : ((0 < ((x1 ^^^ (-1 : Int32)) &&& (x1 - (1 : Int32))) → ((((x1 ^^^ (-1 : Int32)) &&& (x1 - (1 : Int32))) ≤ (65536 : Int32) → w_J6_numberOfTrailingZeros_0f7a4_34 E D post px ((x1 ^^^ (-1 : Int32)) &&& (x1 - (1 : Int32))) (1 : Int32) M) ∧ (¬ ((x1 ^^^ (-1 : Int32)) &&& (x1 - (1 : Int32))) ≤ (65536 : Int32) → w_J6_numberOfTrailingZeros_0f7a4_34 E D post px (zushr ((x1 ^^^ (-1 : Int32)) &&& (x1 - (1 : Int32))) (16 : Int32)) ((1 : Int32) + (16 : Int32)) M))) ∧ (¬ 0 < ((x1 ^^^ (-1 : Int32)) &&& (x1 - (1 : Int32))) → post (((x1 ^^^ (-1 : Int32)) &&& (x1 - (1 : Int32))) &&& (32 : Int32)) M))) : zCi E jJ6_numberOfTrailingZeros_0f7a4 D 0 [.int x1] M post px := by
  refine z_meth (by decide) (Nat.le_of_ble_eq_true rfl) ?_
  show Z E jJ6_numberOfTrailingZeros_0f7a4 D 0 (zQi post px) 0 0 [.int x1, zU] [] M
  refine z_iload_n dJ6_numberOfTrailingZeros_0f7a4_0 rfl ?_
  refine z_iconst (v := (-1 : Int32)) dJ6_numberOfTrailingZeros_0f7a4_1 rfl ?_
  refine z_ixor dJ6_numberOfTrailingZeros_0f7a4_2 ?_
  refine z_iload_n dJ6_numberOfTrailingZeros_0f7a4_3 rfl ?_
  refine z_iconst (v := (1 : Int32)) dJ6_numberOfTrailingZeros_0f7a4_4 rfl ?_
  refine z_isub dJ6_numberOfTrailingZeros_0f7a4_5 ?_
  refine z_iand dJ6_numberOfTrailingZeros_0f7a4_6 ?_
  refine z_istore_n dJ6_numberOfTrailingZeros_0f7a4_7 (by decide) (ls' := [.int ((x1 ^^^ (-1 : Int32)) &&& (x1 - (1 : Int32))), zU]) rfl ?_
  refine z_iload_n dJ6_numberOfTrailingZeros_0f7a4_8 rfl ?_
  refine z_if_gt (tgt := 17) dJ6_numberOfTrailingZeros_0f7a4_9 (by decide) (fun g1 => ?_) (fun g1 => ?_)
  · have h2 := h.1 g1
    refine z_iconst (v := (1 : Int32)) dJ6_numberOfTrailingZeros_0f7a4_17 rfl ?_
    refine z_istore_n dJ6_numberOfTrailingZeros_0f7a4_18 (by decide) (ls' := [.int ((x1 ^^^ (-1 : Int32)) &&& (x1 - (1 : Int32))), .int (1 : Int32)]) rfl ?_
    refine z_iload_n dJ6_numberOfTrailingZeros_0f7a4_19 rfl ?_
    refine z_ldcw (v := (65536 : Int32)) dJ6_numberOfTrailingZeros_0f7a4_20 zw_2147 ?_
    refine z_icmp_le (tgt := 34) dJ6_numberOfTrailingZeros_0f7a4_23 (by decide) (fun g4 => ?_) (fun g4 => ?_)
    · have h5 := h2.1 g4
      exact h5
    · have h6 := h2.2 g4
      refine z_iinc dJ6_numberOfTrailingZeros_0f7a4_26 rfl (by decide) (ls' := [.int ((x1 ^^^ (-1 : Int32)) &&& (x1 - (1 : Int32))), .int ((1 : Int32) + (16 : Int32))]) rfl ?_
      refine z_iload_n dJ6_numberOfTrailingZeros_0f7a4_29 rfl ?_
      refine z_bipush (v := (16 : Int32)) dJ6_numberOfTrailingZeros_0f7a4_30 rfl ?_
      refine z_iushr (v := (zushr ((x1 ^^^ (-1 : Int32)) &&& (x1 - (1 : Int32))) (16 : Int32))) dJ6_numberOfTrailingZeros_0f7a4_32 rfl ?_
      refine z_istore_n dJ6_numberOfTrailingZeros_0f7a4_33 (by decide) (ls' := [.int (zushr ((x1 ^^^ (-1 : Int32)) &&& (x1 - (1 : Int32))) (16 : Int32)), .int ((1 : Int32) + (16 : Int32))]) rfl ?_
      exact h6
  · have h3 := h.2 g1
    refine z_iload_n dJ6_numberOfTrailingZeros_0f7a4_12 rfl ?_
    refine z_bipush (v := (32 : Int32)) dJ6_numberOfTrailingZeros_0f7a4_13 rfl ?_
    refine z_iand dJ6_numberOfTrailingZeros_0f7a4_15 ?_
    exact z_iret dJ6_numberOfTrailingZeros_0f7a4_16 rfl rfl (by decide) h3
theorem t_J6_numberOfTrailingZeros_0f7a4_34 {E : zEv} {D : Nat} {post : Int32 → zM → Prop} {px : String → zM → Prop} {M : zM}   {y0 : Int32} {y1 : Int32} (h : ((y0 ≤ (256 : Int32) → w_J6_numberOfTrailingZeros_0f7a4_49 E D post px y0 y1 M) ∧ (¬ y0 ≤ (256 : Int32) → w_J6_numberOfTrailingZeros_0f7a4_49 E D post px (zushr y0 (8 : Int32)) (y1 + (8 : Int32)) M))) : w_J6_numberOfTrailingZeros_0f7a4_34 E D post px y0 y1 M := by
  show Z E jJ6_numberOfTrailingZeros_0f7a4 D 0 (zQi post px) 34 0 [.int y0, .int y1] [] M
  refine z_iload_n dJ6_numberOfTrailingZeros_0f7a4_34 rfl ?_
  refine z_sipush (v := (256 : Int32)) dJ6_numberOfTrailingZeros_0f7a4_35 rfl ?_
  refine z_icmp_le (tgt := 49) dJ6_numberOfTrailingZeros_0f7a4_38 (by decide) (fun g1 => ?_) (fun g1 => ?_)
  · have h2 := h.1 g1
    exact h2
  · have h3 := h.2 g1
    refine z_iinc dJ6_numberOfTrailingZeros_0f7a4_41 rfl (by decide) (ls' := [.int y0, .int (y1 + (8 : Int32))]) rfl ?_
    refine z_iload_n dJ6_numberOfTrailingZeros_0f7a4_44 rfl ?_
    refine z_bipush (v := (8 : Int32)) dJ6_numberOfTrailingZeros_0f7a4_45 rfl ?_
    refine z_iushr (v := (zushr y0 (8 : Int32))) dJ6_numberOfTrailingZeros_0f7a4_47 rfl ?_
    refine z_istore_n dJ6_numberOfTrailingZeros_0f7a4_48 (by decide) (ls' := [.int (zushr y0 (8 : Int32)), .int (y1 + (8 : Int32))]) rfl ?_
    exact h3
theorem t_J6_numberOfTrailingZeros_0f7a4_49 {E : zEv} {D : Nat} {post : Int32 → zM → Prop} {px : String → zM → Prop} {M : zM}   {y0 : Int32} {y1 : Int32} (h : ((y0 ≤ (16 : Int32) → w_J6_numberOfTrailingZeros_0f7a4_62 E D post px y0 y1 M) ∧ (¬ y0 ≤ (16 : Int32) → w_J6_numberOfTrailingZeros_0f7a4_62 E D post px (zushr y0 (4 : Int32)) (y1 + (4 : Int32)) M))) : w_J6_numberOfTrailingZeros_0f7a4_49 E D post px y0 y1 M := by
  show Z E jJ6_numberOfTrailingZeros_0f7a4 D 0 (zQi post px) 49 0 [.int y0, .int y1] [] M
  refine z_iload_n dJ6_numberOfTrailingZeros_0f7a4_49 rfl ?_
  refine z_bipush (v := (16 : Int32)) dJ6_numberOfTrailingZeros_0f7a4_50 rfl ?_
  refine z_icmp_le (tgt := 62) dJ6_numberOfTrailingZeros_0f7a4_52 (by decide) (fun g1 => ?_) (fun g1 => ?_)
  · have h2 := h.1 g1
    exact h2
  · have h3 := h.2 g1
    refine z_iinc dJ6_numberOfTrailingZeros_0f7a4_55 rfl (by decide) (ls' := [.int y0, .int (y1 + (4 : Int32))]) rfl ?_
    refine z_iload_n dJ6_numberOfTrailingZeros_0f7a4_58 rfl ?_
    refine z_iconst (v := (4 : Int32)) dJ6_numberOfTrailingZeros_0f7a4_59 rfl ?_
    refine z_iushr (v := (zushr y0 (4 : Int32))) dJ6_numberOfTrailingZeros_0f7a4_60 rfl ?_
    refine z_istore_n dJ6_numberOfTrailingZeros_0f7a4_61 (by decide) (ls' := [.int (zushr y0 (4 : Int32)), .int (y1 + (4 : Int32))]) rfl ?_
    exact h3
theorem t_J6_numberOfTrailingZeros_0f7a4_62 {E : zEv} {D : Nat} {post : Int32 → zM → Prop} {px : String → zM → Prop} {M : zM}   {y0 : Int32} {y1 : Int32} (h : ((y0 ≤ (4 : Int32) → w_J6_numberOfTrailingZeros_0f7a4_74 E D post px y0 y1 M) ∧ (¬ y0 ≤ (4 : Int32) → w_J6_numberOfTrailingZeros_0f7a4_74 E D post px (zushr y0 (2 : Int32)) (y1 + (2 : Int32)) M))) : w_J6_numberOfTrailingZeros_0f7a4_62 E D post px y0 y1 M := by
  show Z E jJ6_numberOfTrailingZeros_0f7a4 D 0 (zQi post px) 62 0 [.int y0, .int y1] [] M
  refine z_iload_n dJ6_numberOfTrailingZeros_0f7a4_62 rfl ?_
  refine z_iconst (v := (4 : Int32)) dJ6_numberOfTrailingZeros_0f7a4_63 rfl ?_
  refine z_icmp_le (tgt := 74) dJ6_numberOfTrailingZeros_0f7a4_64 (by decide) (fun g1 => ?_) (fun g1 => ?_)
  · have h2 := h.1 g1
    exact h2
  · have h3 := h.2 g1
    refine z_iinc dJ6_numberOfTrailingZeros_0f7a4_67 rfl (by decide) (ls' := [.int y0, .int (y1 + (2 : Int32))]) rfl ?_
    refine z_iload_n dJ6_numberOfTrailingZeros_0f7a4_70 rfl ?_
    refine z_iconst (v := (2 : Int32)) dJ6_numberOfTrailingZeros_0f7a4_71 rfl ?_
    refine z_iushr (v := (zushr y0 (2 : Int32))) dJ6_numberOfTrailingZeros_0f7a4_72 rfl ?_
    refine z_istore_n dJ6_numberOfTrailingZeros_0f7a4_73 (by decide) (ls' := [.int (zushr y0 (2 : Int32)), .int (y1 + (2 : Int32))]) rfl ?_
    exact h3
theorem t_J6_numberOfTrailingZeros_0f7a4_74 {E : zEv} {D : Nat} {post : Int32 → zM → Prop} {px : String → zM → Prop} {M : zM}   {y0 : Int32} {y1 : Int32} (h : post (y1 + (zushr y0 (1 : Int32))) M) : w_J6_numberOfTrailingZeros_0f7a4_74 E D post px y0 y1 M := by
  show Z E jJ6_numberOfTrailingZeros_0f7a4 D 0 (zQi post px) 74 0 [.int y0, .int y1] [] M
  refine z_iload_n dJ6_numberOfTrailingZeros_0f7a4_74 rfl ?_
  refine z_iload_n dJ6_numberOfTrailingZeros_0f7a4_75 rfl ?_
  refine z_iconst (v := (1 : Int32)) dJ6_numberOfTrailingZeros_0f7a4_76 rfl ?_
  refine z_iushr (v := (zushr y0 (1 : Int32))) dJ6_numberOfTrailingZeros_0f7a4_77 rfl ?_
  refine z_iadd dJ6_numberOfTrailingZeros_0f7a4_78 ?_
  exact z_iret dJ6_numberOfTrailingZeros_0f7a4_79 rfl rfl (by decide) h
theorem e_J6_bitCount_0f7a4 {E : zEv} {D : Nat} {post : Int32 → zM → Prop} {px : String → zM → Prop} {M : zM} {x1 : Int32}  (h : post ((((((((x1 - ((zushr x1 (1 : Int32)) &&& (1431655765 : Int32))) &&& (858993459 : Int32)) + ((zushr (x1 - ((zushr x1 (1 : Int32)) &&& (1431655765 : Int32))) (2 : Int32)) &&& (858993459 : Int32))) + (zushr (((x1 - ((zushr x1 (1 : Int32)) &&& (1431655765 : Int32))) &&& (858993459 : Int32)) + ((zushr (x1 - ((zushr x1 (1 : Int32)) &&& (1431655765 : Int32))) (2 : Int32)) &&& (858993459 : Int32))) (4 : Int32))) &&& (252645135 : Int32)) + (zushr (((((x1 - ((zushr x1 (1 : Int32)) &&& (1431655765 : Int32))) &&& (858993459 : Int32)) + ((zushr (x1 - ((zushr x1 (1 : Int32)) &&& (1431655765 : Int32))) (2 : Int32)) &&& (858993459 : Int32))) + (zushr (((x1 - ((zushr x1 (1 : Int32)) &&& (1431655765 : Int32))) &&& (858993459 : Int32)) + ((zushr (x1 - ((zushr x1 (1 : Int32)) &&& (1431655765 : Int32))) (2 : Int32)) &&& (858993459 : Int32))) (4 : Int32))) &&& (252645135 : Int32)) (8 : Int32))) + (zushr ((((((x1 - ((zushr x1 (1 : Int32)) &&& (1431655765 : Int32))) &&& (858993459 : Int32)) + ((zushr (x1 - ((zushr x1 (1 : Int32)) &&& (1431655765 : Int32))) (2 : Int32)) &&& (858993459 : Int32))) + (zushr (((x1 - ((zushr x1 (1 : Int32)) &&& (1431655765 : Int32))) &&& (858993459 : Int32)) + ((zushr (x1 - ((zushr x1 (1 : Int32)) &&& (1431655765 : Int32))) (2 : Int32)) &&& (858993459 : Int32))) (4 : Int32))) &&& (252645135 : Int32)) + (zushr (((((x1 - ((zushr x1 (1 : Int32)) &&& (1431655765 : Int32))) &&& (858993459 : Int32)) + ((zushr (x1 - ((zushr x1 (1 : Int32)) &&& (1431655765 : Int32))) (2 : Int32)) &&& (858993459 : Int32))) + (zushr (((x1 - ((zushr x1 (1 : Int32)) &&& (1431655765 : Int32))) &&& (858993459 : Int32)) + ((zushr (x1 - ((zushr x1 (1 : Int32)) &&& (1431655765 : Int32))) (2 : Int32)) &&& (858993459 : Int32))) (4 : Int32))) &&& (252645135 : Int32)) (8 : Int32))) (16 : Int32))) &&& (63 : Int32)) M) : zCi E jJ6_bitCount_0f7a4 D 0 [.int x1] M post px := by
  refine z_meth (by decide) (Nat.le_of_ble_eq_true rfl) ?_
  show Z E jJ6_bitCount_0f7a4 D 0 (zQi post px) 0 0 [.int x1] [] M
  refine z_iload_n dJ6_bitCount_0f7a4_0 rfl ?_
  refine z_iload_n dJ6_bitCount_0f7a4_1 rfl ?_
  refine z_iconst (v := (1 : Int32)) dJ6_bitCount_0f7a4_2 rfl ?_
  refine z_iushr (v := (zushr x1 (1 : Int32))) dJ6_bitCount_0f7a4_3 rfl ?_
  refine z_ldcw (v := (1431655765 : Int32)) dJ6_bitCount_0f7a4_4 zw_556 ?_
  refine z_iand dJ6_bitCount_0f7a4_7 ?_
  refine z_isub dJ6_bitCount_0f7a4_8 ?_
  refine z_istore_n dJ6_bitCount_0f7a4_9 (by decide) (ls' := [.int (x1 - ((zushr x1 (1 : Int32)) &&& (1431655765 : Int32)))]) rfl ?_
  refine z_iload_n dJ6_bitCount_0f7a4_10 rfl ?_
  refine z_ldcw (v := (858993459 : Int32)) dJ6_bitCount_0f7a4_11 zw_557 ?_
  refine z_iand dJ6_bitCount_0f7a4_14 ?_
  refine z_iload_n dJ6_bitCount_0f7a4_15 rfl ?_
  refine z_iconst (v := (2 : Int32)) dJ6_bitCount_0f7a4_16 rfl ?_
  refine z_iushr (v := (zushr (x1 - ((zushr x1 (1 : Int32)) &&& (1431655765 : Int32))) (2 : Int32))) dJ6_bitCount_0f7a4_17 rfl ?_
  refine z_ldcw (v := (858993459 : Int32)) dJ6_bitCount_0f7a4_18 zw_557 ?_
  refine z_iand dJ6_bitCount_0f7a4_21 ?_
  refine z_iadd dJ6_bitCount_0f7a4_22 ?_
  refine z_istore_n dJ6_bitCount_0f7a4_23 (by decide) (ls' := [.int (((x1 - ((zushr x1 (1 : Int32)) &&& (1431655765 : Int32))) &&& (858993459 : Int32)) + ((zushr (x1 - ((zushr x1 (1 : Int32)) &&& (1431655765 : Int32))) (2 : Int32)) &&& (858993459 : Int32)))]) rfl ?_
  refine z_iload_n dJ6_bitCount_0f7a4_24 rfl ?_
  refine z_iload_n dJ6_bitCount_0f7a4_25 rfl ?_
  refine z_iconst (v := (4 : Int32)) dJ6_bitCount_0f7a4_26 rfl ?_
  refine z_iushr (v := (zushr (((x1 - ((zushr x1 (1 : Int32)) &&& (1431655765 : Int32))) &&& (858993459 : Int32)) + ((zushr (x1 - ((zushr x1 (1 : Int32)) &&& (1431655765 : Int32))) (2 : Int32)) &&& (858993459 : Int32))) (4 : Int32))) dJ6_bitCount_0f7a4_27 rfl ?_
  refine z_iadd dJ6_bitCount_0f7a4_28 ?_
  refine z_ldcw (v := (252645135 : Int32)) dJ6_bitCount_0f7a4_29 zw_558 ?_
  refine z_iand dJ6_bitCount_0f7a4_32 ?_
  refine z_istore_n dJ6_bitCount_0f7a4_33 (by decide) (ls' := [.int (((((x1 - ((zushr x1 (1 : Int32)) &&& (1431655765 : Int32))) &&& (858993459 : Int32)) + ((zushr (x1 - ((zushr x1 (1 : Int32)) &&& (1431655765 : Int32))) (2 : Int32)) &&& (858993459 : Int32))) + (zushr (((x1 - ((zushr x1 (1 : Int32)) &&& (1431655765 : Int32))) &&& (858993459 : Int32)) + ((zushr (x1 - ((zushr x1 (1 : Int32)) &&& (1431655765 : Int32))) (2 : Int32)) &&& (858993459 : Int32))) (4 : Int32))) &&& (252645135 : Int32))]) rfl ?_
  refine z_iload_n dJ6_bitCount_0f7a4_34 rfl ?_
  refine z_iload_n dJ6_bitCount_0f7a4_35 rfl ?_
  refine z_bipush (v := (8 : Int32)) dJ6_bitCount_0f7a4_36 rfl ?_
  refine z_iushr (v := (zushr (((((x1 - ((zushr x1 (1 : Int32)) &&& (1431655765 : Int32))) &&& (858993459 : Int32)) + ((zushr (x1 - ((zushr x1 (1 : Int32)) &&& (1431655765 : Int32))) (2 : Int32)) &&& (858993459 : Int32))) + (zushr (((x1 - ((zushr x1 (1 : Int32)) &&& (1431655765 : Int32))) &&& (858993459 : Int32)) + ((zushr (x1 - ((zushr x1 (1 : Int32)) &&& (1431655765 : Int32))) (2 : Int32)) &&& (858993459 : Int32))) (4 : Int32))) &&& (252645135 : Int32)) (8 : Int32))) dJ6_bitCount_0f7a4_38 rfl ?_
  refine z_iadd dJ6_bitCount_0f7a4_39 ?_
  refine z_istore_n dJ6_bitCount_0f7a4_40 (by decide) (ls' := [.int ((((((x1 - ((zushr x1 (1 : Int32)) &&& (1431655765 : Int32))) &&& (858993459 : Int32)) + ((zushr (x1 - ((zushr x1 (1 : Int32)) &&& (1431655765 : Int32))) (2 : Int32)) &&& (858993459 : Int32))) + (zushr (((x1 - ((zushr x1 (1 : Int32)) &&& (1431655765 : Int32))) &&& (858993459 : Int32)) + ((zushr (x1 - ((zushr x1 (1 : Int32)) &&& (1431655765 : Int32))) (2 : Int32)) &&& (858993459 : Int32))) (4 : Int32))) &&& (252645135 : Int32)) + (zushr (((((x1 - ((zushr x1 (1 : Int32)) &&& (1431655765 : Int32))) &&& (858993459 : Int32)) + ((zushr (x1 - ((zushr x1 (1 : Int32)) &&& (1431655765 : Int32))) (2 : Int32)) &&& (858993459 : Int32))) + (zushr (((x1 - ((zushr x1 (1 : Int32)) &&& (1431655765 : Int32))) &&& (858993459 : Int32)) + ((zushr (x1 - ((zushr x1 (1 : Int32)) &&& (1431655765 : Int32))) (2 : Int32)) &&& (858993459 : Int32))) (4 : Int32))) &&& (252645135 : Int32)) (8 : Int32)))]) rfl ?_
  refine z_iload_n dJ6_bitCount_0f7a4_41 rfl ?_
  refine z_iload_n dJ6_bitCount_0f7a4_42 rfl ?_
  refine z_bipush (v := (16 : Int32)) dJ6_bitCount_0f7a4_43 rfl ?_
  refine z_iushr (v := (zushr ((((((x1 - ((zushr x1 (1 : Int32)) &&& (1431655765 : Int32))) &&& (858993459 : Int32)) + ((zushr (x1 - ((zushr x1 (1 : Int32)) &&& (1431655765 : Int32))) (2 : Int32)) &&& (858993459 : Int32))) + (zushr (((x1 - ((zushr x1 (1 : Int32)) &&& (1431655765 : Int32))) &&& (858993459 : Int32)) + ((zushr (x1 - ((zushr x1 (1 : Int32)) &&& (1431655765 : Int32))) (2 : Int32)) &&& (858993459 : Int32))) (4 : Int32))) &&& (252645135 : Int32)) + (zushr (((((x1 - ((zushr x1 (1 : Int32)) &&& (1431655765 : Int32))) &&& (858993459 : Int32)) + ((zushr (x1 - ((zushr x1 (1 : Int32)) &&& (1431655765 : Int32))) (2 : Int32)) &&& (858993459 : Int32))) + (zushr (((x1 - ((zushr x1 (1 : Int32)) &&& (1431655765 : Int32))) &&& (858993459 : Int32)) + ((zushr (x1 - ((zushr x1 (1 : Int32)) &&& (1431655765 : Int32))) (2 : Int32)) &&& (858993459 : Int32))) (4 : Int32))) &&& (252645135 : Int32)) (8 : Int32))) (16 : Int32))) dJ6_bitCount_0f7a4_45 rfl ?_
  refine z_iadd dJ6_bitCount_0f7a4_46 ?_
  refine z_istore_n dJ6_bitCount_0f7a4_47 (by decide) (ls' := [.int (((((((x1 - ((zushr x1 (1 : Int32)) &&& (1431655765 : Int32))) &&& (858993459 : Int32)) + ((zushr (x1 - ((zushr x1 (1 : Int32)) &&& (1431655765 : Int32))) (2 : Int32)) &&& (858993459 : Int32))) + (zushr (((x1 - ((zushr x1 (1 : Int32)) &&& (1431655765 : Int32))) &&& (858993459 : Int32)) + ((zushr (x1 - ((zushr x1 (1 : Int32)) &&& (1431655765 : Int32))) (2 : Int32)) &&& (858993459 : Int32))) (4 : Int32))) &&& (252645135 : Int32)) + (zushr (((((x1 - ((zushr x1 (1 : Int32)) &&& (1431655765 : Int32))) &&& (858993459 : Int32)) + ((zushr (x1 - ((zushr x1 (1 : Int32)) &&& (1431655765 : Int32))) (2 : Int32)) &&& (858993459 : Int32))) + (zushr (((x1 - ((zushr x1 (1 : Int32)) &&& (1431655765 : Int32))) &&& (858993459 : Int32)) + ((zushr (x1 - ((zushr x1 (1 : Int32)) &&& (1431655765 : Int32))) (2 : Int32)) &&& (858993459 : Int32))) (4 : Int32))) &&& (252645135 : Int32)) (8 : Int32))) + (zushr ((((((x1 - ((zushr x1 (1 : Int32)) &&& (1431655765 : Int32))) &&& (858993459 : Int32)) + ((zushr (x1 - ((zushr x1 (1 : Int32)) &&& (1431655765 : Int32))) (2 : Int32)) &&& (858993459 : Int32))) + (zushr (((x1 - ((zushr x1 (1 : Int32)) &&& (1431655765 : Int32))) &&& (858993459 : Int32)) + ((zushr (x1 - ((zushr x1 (1 : Int32)) &&& (1431655765 : Int32))) (2 : Int32)) &&& (858993459 : Int32))) (4 : Int32))) &&& (252645135 : Int32)) + (zushr (((((x1 - ((zushr x1 (1 : Int32)) &&& (1431655765 : Int32))) &&& (858993459 : Int32)) + ((zushr (x1 - ((zushr x1 (1 : Int32)) &&& (1431655765 : Int32))) (2 : Int32)) &&& (858993459 : Int32))) + (zushr (((x1 - ((zushr x1 (1 : Int32)) &&& (1431655765 : Int32))) &&& (858993459 : Int32)) + ((zushr (x1 - ((zushr x1 (1 : Int32)) &&& (1431655765 : Int32))) (2 : Int32)) &&& (858993459 : Int32))) (4 : Int32))) &&& (252645135 : Int32)) (8 : Int32))) (16 : Int32)))]) rfl ?_
  refine z_iload_n dJ6_bitCount_0f7a4_48 rfl ?_
  refine z_bipush (v := (63 : Int32)) dJ6_bitCount_0f7a4_49 rfl ?_
  refine z_iand dJ6_bitCount_0f7a4_51 ?_
  exact z_iret dJ6_bitCount_0f7a4_52 rfl rfl (by decide) h
