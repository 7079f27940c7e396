def w_X0_sharedIn_5 (E : zEv) (D : Nat) (post : Int32 → zM → Prop) (px : String → zM → Prop) (a : Nat) (n : Nat) (y1 : Int32) (y2 : Int32) (y3 : Int32) (y4 : Int32) (M : zM) : Prop := Z E jX0_sharedIn D 0 (zQi post px) 5 0 [.ref a, .int y1, .int y2, .int y3, .int y4] [] M
def w_X0_sharedIn_35 (E : zEv) (D : Nat) (post : Int32 → zM → Prop) (px : String → zM → Prop) (a : Nat) (n : Nat) (y1 : Int32) (y2 : Int32) (y3 : Int32) (y4 : Int32) (M : zM) : Prop := Z E jX0_sharedIn D 0 (zQi post px) 35 0 [.ref a, .int y1, .int y2, .int y3, .int y4] [] M
theorem e_X0_sharedIn {E : zEv} {D : Nat} {post : Int32 → zM → Prop} {px : String → zM → Prop} {M : zM} {a n : Nat} {x2 : Int32} {x3 : Int32} (ha : zShape[a]? = some (.inr (0, n))) (h : w_X0_sharedIn_5 E D post px a n x2 x3 (0 : Int32) (1 : Int32) M) : zCi E jX0_sharedIn D 0 [.ref a, .int x2, .int x3] M post px := by
  refine z_meth (by decide) (Nat.le_of_ble_eq_true rfl) ?_
  show Z E jX0_sharedIn D 0 (zQi post px) 0 0 [.ref a, .int x2, .int x3, zU, zU] [] M
  refine z_iconst (v := (0 : Int32)) dX0_sharedIn_0 rfl ?_
  refine z_istore_n dX0_sharedIn_1 (by decide) (ls' := [.ref a, .int x2, .int x3, .int (0 : Int32), zU]) rfl ?_
  refine z_iconst (v := (1 : Int32)) dX0_sharedIn_2 rfl ?_
  refine z_istore dX0_sharedIn_3 (by decide) (ls' := [.ref a, .int x2, .int x3, .int (0 : Int32), .int (1 : Int32)]) rfl ?_
  exact h
theorem t_X0_sharedIn_5 {E : zEv} {D : Nat} {post : Int32 → zM → Prop} {px : String → zM → Prop} {M : zM} {a : Nat} {n : Nat} (ha : zShape[a]? = some (.inr (0, n))) {y1 : Int32} {y2 : Int32} {y3 : Int32} {y4 : Int32} (h : ((y1 ≤ y4 → post y3 M) ∧ (¬ y1 ≤ y4 → vp_in (y4 - (1 : Int32)) n ∧ vp_in y4 n ∧ ((((y2 >>> ((M.1 a ((y4 - (1 : Int32))).toNatClampNeg) &&& 31)) &&& (1 : Int32)) = ((y2 >>> ((M.1 a (y4).toNatClampNeg) &&& 31)) &&& (1 : Int32)) → w_X0_sharedIn_35 E D post px a n y1 y2 y3 y4 M) ∧ (¬ ((y2 >>> ((M.1 a ((y4 - (1 : Int32))).toNatClampNeg) &&& 31)) &&& (1 : Int32)) = ((y2 >>> ((M.1 a (y4).toNatClampNeg) &&& 31)) &&& (1 : Int32)) → w_X0_sharedIn_35 E D post px a n y1 y2 (y3 + (1 : Int32)) y4 M))))) : w_X0_sharedIn_5 E D post px a n y1 y2 y3 y4 M := by
  show Z E jX0_sharedIn D 0 (zQi post px) 5 0 [.ref a, .int y1, .int y2, .int y3, .int y4] [] M
  refine z_iload dX0_sharedIn_5 rfl ?_
  refine z_iload_n dX0_sharedIn_7 rfl ?_
  refine z_icmp_ge (tgt := 41) dX0_sharedIn_8 (by decide) (fun g1 => ?_) (fun g1 => ?_)
  · have h2 := h.1 g1
    refine z_iload_n dX0_sharedIn_41 rfl ?_
    exact z_iret dX0_sharedIn_42 rfl rfl (by decide) h2
  · have h3 := h.2 g1
    refine z_iload_n dX0_sharedIn_11 rfl ?_
    refine z_aload_n dX0_sharedIn_12 rfl ?_
    refine z_iload dX0_sharedIn_13 rfl ?_
    refine z_iconst (v := (1 : Int32)) dX0_sharedIn_15 rfl ?_
    refine z_isub dX0_sharedIn_16 ?_
    obtain ⟨g5, h4⟩ := h3
    refine z_iald dX0_sharedIn_17 ha g5 ?_
    refine z_ishr dX0_sharedIn_18 ?_
    refine z_iconst (v := (1 : Int32)) dX0_sharedIn_19 rfl ?_
    refine z_iand dX0_sharedIn_20 ?_
    refine z_iload_n dX0_sharedIn_21 rfl ?_
    refine z_aload_n dX0_sharedIn_22 rfl ?_
    refine z_iload dX0_sharedIn_23 rfl ?_
    obtain ⟨g7, h6⟩ := h4
    refine z_iald dX0_sharedIn_25 ha g7 ?_
    refine z_ishr dX0_sharedIn_26 ?_
    refine z_iconst (v := (1 : Int32)) dX0_sharedIn_27 rfl ?_
    refine z_iand dX0_sharedIn_28 ?_
    refine z_icmp_eq (tgt := 35) dX0_sharedIn_29 (by decide) (fun g8 => ?_) (fun g8 => ?_)
    · have h9 := h6.1 g8
      exact h9
    · have h10 := h6.2 g8
      refine z_iinc dX0_sharedIn_32 rfl (by decide) (ls' := [.ref a, .int y1, .int y2, .int (y3 + (1 : Int32)), .int y4]) rfl ?_
      exact h10
theorem t_X0_sharedIn_35 {E : zEv} {D : Nat} {post : Int32 → zM → Prop} {px : String → zM → Prop} {M : zM} {a : Nat} {n : Nat} (ha : zShape[a]? = some (.inr (0, n))) {y1 : Int32} {y2 : Int32} {y3 : Int32} {y4 : Int32} (h : w_X0_sharedIn_5 E D post px a n y1 y2 y3 (y4 + (1 : Int32)) M) : w_X0_sharedIn_35 E D post px a n y1 y2 y3 y4 M := by
  show Z E jX0_sharedIn D 0 (zQi post px) 35 0 [.ref a, .int y1, .int y2, .int y3, .int y4] [] M
  refine z_iinc dX0_sharedIn_35 rfl (by decide) (ls' := [.ref a, .int y1, .int y2, .int y3, .int (y4 + (1 : Int32))]) rfl ?_
  refine z_goto (tgt := 5) dX0_sharedIn_38 (by decide) ?_
  exact h
theorem e_X0_search {E : zEv} {D : Nat} {post : zM → Prop} {px : String → zM → Prop} {M : zM} {x2 : Int32}  (h : ∀ M1 : zM, M1 = zup M 53 2 (-1 : Int32) → ∀ M3 : zM, M3 = zup M1 53 3 (0 : Int32) → zCv E jX0_extend D 0 [.ref 53, .ref 62, .int x2, .int (0 : Int32), .int (0 : Int32)] M3 (fun M5 => post M5) px) : zCv E jX0_search (D + 1) 0 [.ref 53, .ref 62, .int x2] M post px := by
  refine z_meth (by decide) (Nat.le_of_ble_eq_true rfl) ?_
  show Z E jX0_search (D + 1) 0 (zQv post px) 0 0 [.ref 53, .ref 62, .int x2] [] M
  refine z_aload_n dX0_search_0 rfl ?_
  refine z_iconst (v := (-1 : Int32)) dX0_search_1 rfl ?_
  refine z_putI dX0_search_2 zp_X0_18 zs_53 rfl rfl rfl ?_
  generalize hhM1 : zup M 53 2 (-1 : Int32) = M1
  have h2 := h M1 hhM1.symm
  refine z_aload_n dX0_search_5 rfl ?_
  refine z_iconst (v := (0 : Int32)) dX0_search_6 rfl ?_
  refine z_putI dX0_search_7 zp_X0_22 zs_53 rfl rfl rfl ?_
  generalize hhM3 : zup M1 53 3 (0 : Int32) = M3
  have h4 := h2 M3 hhM3.symm
  refine z_aload_n dX0_search_10 rfl ?_
  refine z_aload_n dX0_search_11 rfl ?_
  refine z_iload_n dX0_search_12 rfl ?_
  refine z_iconst (v := (0 : Int32)) dX0_search_13 rfl ?_
  refine z_iconst (v := (0 : Int32)) dX0_search_14 rfl ?_
  refine z_callVv (As := [.ref 62, .int x2, .int (0 : Int32), .int (0 : Int32)]) (st := []) dX0_search_15 zi_X0_25 rfl rfl zs_53 rfl rfl (Nat.le_of_ble_eq_true rfl) (by decide) (fun _ _ hx => hx) h4 ?_
  intro M5 h6
  exact z_vret dX0_search_18 rfl (by decide) h6
def w_X0_extend_18 (E : zEv) (D : Nat) (post : zM → Prop) (px : String → zM → Prop)  (y2 : Int32) (y3 : Int32) (y4 : Int32) (y5 : Int32) (M : zM) : Prop := Z E jX0_extend (D + 1) 0 (zQv post px) 18 0 [.ref 53, .ref 62, .int y2, .int y3, .int y4, .int y5] [] M
def w_X0_extend_61 (E : zEv) (D : Nat) (post : zM → Prop) (px : String → zM → Prop)  (y2 : Int32) (y3 : Int32) (y4 : Int32) (y5 : Int32) (M : zM) : Prop := Z E jX0_extend (D + 1) 0 (zQv post px) 61 0 [.ref 53, .ref 62, .int y2, .int y3, .int y4, .int y5] [] M
theorem e_X0_extend {E : zEv} {D : Nat} {post : zM → Prop} {px : String → zM → Prop} {M : zM} {x2 : Int32} {x3 : Int32} {x4 : Int32}  (h : ((x3 < (M.1 62 6) → w_X0_extend_18 E D post px x2 x3 x4 (0 : Int32) M) ∧ (¬ x3 < (M.1 62 6) → zCv E jX0_weighTried D 0 [.ref 53, .ref 62, .int x2] M (fun M4 => post M4) px))) : zCv E jX0_extend (D + 1) 0 [.ref 53, .ref 62, .int x2, .int x3, .int x4] M post px := by
  refine z_meth (by decide) (Nat.le_of_ble_eq_true rfl) ?_
  show Z E jX0_extend (D + 1) 0 (zQv post px) 0 0 [.ref 53, .ref 62, .int x2, .int x3, .int x4, zU] [] M
  refine z_iload_n dX0_extend_0 rfl ?_
  refine z_aload_n dX0_extend_1 rfl ?_
  refine z_getI dX0_extend_2 zg_X0_29 zs_62 rfl ?_
  refine z_icmp_lt (tgt := 15) dX0_extend_5 (by decide) (fun g1 => ?_) (fun g1 => ?_)
  · have h2 := h.1 g1
    refine z_iconst (v := (0 : Int32)) dX0_extend_15 rfl ?_
    refine z_istore dX0_extend_16 (by decide) (ls' := [.ref 53, .ref 62, .int x2, .int x3, .int x4, .int (0 : Int32)]) rfl ?_
    exact h2
  · have h3 := h.2 g1
    refine z_aload_n dX0_extend_8 rfl ?_
    refine z_aload_n dX0_extend_9 rfl ?_
    refine z_iload_n dX0_extend_10 rfl ?_
    refine z_callVv (As := [.ref 62, .int x2]) (st := []) dX0_extend_11 zi_X0_34 rfl rfl zs_53 rfl rfl (Nat.le_of_ble_eq_true rfl) (by decide) (fun _ _ hx => hx) h3 ?_
    intro M4 h5
    exact z_vret dX0_extend_14 rfl (by decide) h5
theorem t_X0_extend_18 {E : zEv} {D : Nat} {post : zM → Prop} {px : String → zM → Prop} {M : zM}   {y2 : Int32} {y3 : Int32} {y4 : Int32} {y5 : Int32} (h : (((M.1 62 6) ≤ y5 → post M) ∧ (¬ (M.1 62 6) ≤ y5 → ((¬ ((y4 >>> (y5 &&& 31)) &&& (1 : Int32)) = 0 → w_X0_extend_61 E D post px y2 y3 y4 y5 M) ∧ (((y4 >>> (y5 &&& 31)) &&& (1 : Int32)) = 0 → vp_in y3 5 ∧ ∀ M9 : zM, M9 = zup M 55 (y3).toNatClampNeg y5 → zCv E jX0_extend D 0 [.ref 53, .ref 62, .int y2, .int (y3 + (1 : Int32)), .int (y4 ||| ((1 : Int32) <<< (y5 &&& 31)))] M9 (fun M11 => w_X0_extend_61 E D post px y2 y3 y4 y5 M11) px))))) : w_X0_extend_18 E D post px y2 y3 y4 y5 M := by
  show Z E jX0_extend (D + 1) 0 (zQv post px) 18 0 [.ref 53, .ref 62, .int y2, .int y3, .int y4, .int y5] [] M
  refine z_iload dX0_extend_18 rfl ?_
  refine z_aload_n dX0_extend_20 rfl ?_
  refine z_getI dX0_extend_21 zg_X0_29 zs_62 rfl ?_
  refine z_icmp_ge (tgt := 67) dX0_extend_24 (by decide) (fun g1 => ?_) (fun g1 => ?_)
  · have h2 := h.1 g1
    exact z_vret dX0_extend_67 rfl (by decide) h2
  · have h3 := h.2 g1
    refine z_iload dX0_extend_27 rfl ?_
    refine z_iload dX0_extend_29 rfl ?_
    refine z_ishr dX0_extend_31 ?_
    refine z_iconst (v := (1 : Int32)) dX0_extend_32 rfl ?_
    refine z_iand dX0_extend_33 ?_
    refine z_if_ne (tgt := 61) dX0_extend_34 (by decide) (fun g4 => ?_) (fun g4 => ?_)
    · have h5 := h3.1 g4
      exact h5
    · have h6 := h3.2 g4
      refine z_aload_n dX0_extend_37 rfl ?_
      refine z_getR dX0_extend_38 zg_X0_15 zs_53 rfl ?_
      refine z_iload_n dX0_extend_41 rfl ?_
      refine z_iload dX0_extend_42 rfl ?_
      obtain ⟨g8, h7⟩ := h6
      refine z_iast dX0_extend_44 zs_55 g8 ?_
      generalize hhM9 : zup M 55 (y3).toNatClampNeg y5 = M9
      have h10 := h7 M9 hhM9.symm
      refine z_aload_n dX0_extend_45 rfl ?_
      refine z_aload_n dX0_extend_46 rfl ?_
      refine z_iload_n dX0_extend_47 rfl ?_
      refine z_iload_n dX0_extend_48 rfl ?_
      refine z_iconst (v := (1 : Int32)) dX0_extend_49 rfl ?_
      refine z_iadd dX0_extend_50 ?_
      refine z_iload dX0_extend_51 rfl ?_
      refine z_iconst (v := (1 : Int32)) dX0_extend_53 rfl ?_
      refine z_iload dX0_extend_54 rfl ?_
      refine z_ishl dX0_extend_56 ?_
      refine z_ior dX0_extend_57 ?_
      refine z_callVv (As := [.ref 62, .int y2, .int (y3 + (1 : Int32)), .int (y4 ||| ((1 : Int32) <<< (y5 &&& 31)))]) (st := []) dX0_extend_58 zi_X0_25 rfl rfl zs_53 rfl rfl (Nat.le_of_ble_eq_true rfl) (by decide) (fun _ _ hx => hx) h10 ?_
      intro M11 h12
      exact h12
theorem t_X0_extend_61 {E : zEv} {D : Nat} {post : zM → Prop} {px : String → zM → Prop} {M : zM}   {y2 : Int32} {y3 : Int32} {y4 : Int32} {y5 : Int32} (h : w_X0_extend_18 E D post px y2 y3 y4 (y5 + (1 : Int32)) M) : w_X0_extend_61 E D post px y2 y3 y4 y5 M := by
  show Z E jX0_extend (D + 1) 0 (zQv post px) 61 0 [.ref 53, .ref 62, .int y2, .int y3, .int y4, .int y5] [] M
  refine z_iinc dX0_extend_61 rfl (by decide) (ls' := [.ref 53, .ref 62, .int y2, .int y3, .int y4, .int (y5 + (1 : Int32))]) rfl ?_
  refine z_goto (tgt := 18) dX0_extend_64 (by decide) ?_
  exact h
def w_X0_weighTried_30 (E : zEv) (D : Nat) (post : zM → Prop) (px : String → zM → Prop)  (y3 : Int32) (M : zM) : Prop := Z E jX0_weighTried (D + 1) 0 (zQv post px) 30 0 [.ref 53, .ref 62, zU, .int y3, zU] [] M
def w_X0_weighTried_62 (E : zEv) (D : Nat) (post : zM → Prop) (px : String → zM → Prop)  (y3 : Int32) (y4 : Int32) (M : zM) : Prop := Z E jX0_weighTried (D + 1) 0 (zQv post px) 62 0 [.ref 53, zU, zU, .int y3, .int y4] [] M
def w_X0_weighTried_87 (E : zEv) (D : Nat) (post : zM → Prop) (px : String → zM → Prop)   (M : zM) : Prop := Z E jX0_weighTried (D + 1) 0 (zQv post px) 87 0 [zU, zU, zU, zU, zU] [] M
theorem e_X0_weighTried {E : zEv} {D : Nat} {post : zM → Prop} {px : String → zM → Prop} {M : zM} {x2 : Int32}  (h : zCi E jX0_sharedIn D 0 [.ref 55, .int (M.1 62 6), .int x2] M (fun r3 M1 => (((M1.1 53 2) = (-1 : Int32) → w_X0_weighTried_30 E D post px r3 M1) ∧ (¬ (M1.1 53 2) = (-1 : Int32) → ((r3 ≤ (M1.1 53 2) → w_X0_weighTried_30 E D post px r3 M1) ∧ (¬ r3 ≤ (M1.1 53 2) → post M1))))) px) : zCv E jX0_weighTried (D + 1) 0 [.ref 53, .ref 62, .int x2] M post px := by
  refine z_meth (by decide) (Nat.le_of_ble_eq_true rfl) ?_
  show Z E jX0_weighTried (D + 1) 0 (zQv post px) 0 0 [.ref 53, .ref 62, .int x2, zU, zU] [] M
  refine z_aload_n dX0_weighTried_0 rfl ?_
  refine z_getR dX0_weighTried_1 zg_X0_15 zs_53 rfl ?_
  refine z_aload_n dX0_weighTried_4 rfl ?_
  refine z_getI dX0_weighTried_5 zg_X0_29 zs_62 rfl ?_
  refine z_iload_n dX0_weighTried_8 rfl ?_
  refine z_callSi (As := [.ref 55, .int (M.1 62 6), .int x2]) (st := []) dX0_weighTried_9 zi_X0_38 rfl rfl (Nat.le_of_ble_eq_true rfl) (by decide) (fun _ _ hx => hx) h ?_
  intro r3 M1 h2
  refine z_istore_n dX0_weighTried_12 (by decide) (ls' := [.ref 53, .ref 62, .int x2, .int r3, zU]) rfl ?_
  refine z_aload_n dX0_weighTried_13 rfl ?_
  refine z_getI dX0_weighTried_14 zg_X0_18 zs_53 rfl ?_
  refine z_iconst (v := (-1 : Int32)) dX0_weighTried_17 rfl ?_
  refine z_icmp_eq (tgt := 30) dX0_weighTried_18 (by decide) (fun g4 => ?_) (fun g4 => ?_)
  · have h5 := h2.1 g4
    refine z_weak [true, true, false, true, false] (ls' := [.ref 53, .ref 62, zU, .int r3, zU]) rfl rfl ?_
    exact h5
  · have h6 := h2.2 g4
    refine z_iload_n dX0_weighTried_21 rfl ?_
    refine z_aload_n dX0_weighTried_22 rfl ?_
    refine z_getI dX0_weighTried_23 zg_X0_18 zs_53 rfl ?_
    refine z_icmp_le (tgt := 30) dX0_weighTried_26 (by decide) (fun g7 => ?_) (fun g7 => ?_)
    · have h8 := h6.1 g7
      refine z_weak [true, true, false, true, false] (ls' := [.ref 53, .ref 62, zU, .int r3, zU]) rfl rfl ?_
      exact h8
    · have h9 := h6.2 g7
      exact z_vret dX0_weighTried_29 rfl (by decide) h9
theorem t_X0_weighTried_30 {E : zEv} {D : Nat} {post : zM → Prop} {px : String → zM → Prop} {M : zM}   {y3 : Int32} (h : zCi E jX0_changesTo D 0 [.ref 53, .ref 62] M (fun r3 M1 => (((M1.1 53 2) = (-1 : Int32) → w_X0_weighTried_62 E D post px y3 r3 M1) ∧ (¬ (M1.1 53 2) = (-1 : Int32) → ((y3 < (M1.1 53 2) → w_X0_weighTried_62 E D post px y3 r3 M1) ∧ (¬ y3 < (M1.1 53 2) → (((M1.1 53 3) ≤ r3 → w_X0_weighTried_87 E D post px  M1) ∧ (¬ (M1.1 53 3) ≤ r3 → w_X0_weighTried_62 E D post px y3 r3 M1))))))) px) : w_X0_weighTried_30 E D post px y3 M := by
  show Z E jX0_weighTried (D + 1) 0 (zQv post px) 30 0 [.ref 53, .ref 62, zU, .int y3, zU] [] M
  refine z_aload_n dX0_weighTried_30 rfl ?_
  refine z_aload_n dX0_weighTried_31 rfl ?_
  refine z_callVi (As := [.ref 62]) (st := []) dX0_weighTried_32 zi_X0_42 rfl rfl zs_53 rfl rfl (Nat.le_of_ble_eq_true rfl) (by decide) (fun _ _ hx => hx) h ?_
  intro r3 M1 h2
  refine z_istore dX0_weighTried_35 (by decide) (ls' := [.ref 53, .ref 62, zU, .int y3, .int r3]) rfl ?_
  refine z_aload_n dX0_weighTried_37 rfl ?_
  refine z_getI dX0_weighTried_38 zg_X0_18 zs_53 rfl ?_
  refine z_iconst (v := (-1 : Int32)) dX0_weighTried_41 rfl ?_
  refine z_icmp_eq (tgt := 62) dX0_weighTried_42 (by decide) (fun g4 => ?_) (fun g4 => ?_)
  · have h5 := h2.1 g4
    refine z_weak [true, false, false, true, true] (ls' := [.ref 53, zU, zU, .int y3, .int r3]) rfl rfl ?_
    exact h5
  · have h6 := h2.2 g4
    refine z_iload_n dX0_weighTried_45 rfl ?_
    refine z_aload_n dX0_weighTried_46 rfl ?_
    refine z_getI dX0_weighTried_47 zg_X0_18 zs_53 rfl ?_
    refine z_icmp_lt (tgt := 62) dX0_weighTried_50 (by decide) (fun g7 => ?_) (fun g7 => ?_)
    · have h8 := h6.1 g7
      refine z_weak [true, false, false, true, true] (ls' := [.ref 53, zU, zU, .int y3, .int r3]) rfl rfl ?_
      exact h8
    · have h9 := h6.2 g7
      refine z_iload dX0_weighTried_53 rfl ?_
      refine z_aload_n dX0_weighTried_55 rfl ?_
      refine z_getI dX0_weighTried_56 zg_X0_22 zs_53 rfl ?_
      refine z_icmp_ge (tgt := 87) dX0_weighTried_59 (by decide) (fun g10 => ?_) (fun g10 => ?_)
      · have h11 := h9.1 g10
        refine z_weak [false, false, false, false, false] (ls' := [zU, zU, zU, zU, zU]) rfl rfl ?_
        exact h11
      · have h12 := h9.2 g10
        refine z_weak [true, false, false, true, true] (ls' := [.ref 53, zU, zU, .int y3, .int r3]) rfl rfl ?_
        exact h12
theorem t_X0_weighTried_62 {E : zEv} {D : Nat} {post : zM → Prop} {px : String → zM → Prop} {M : zM}   {y3 : Int32} {y4 : Int32} (h : ∀ M1 : zM, M1 = zup M 53 2 y3 → ∀ M3 : zM, M3 = zup M1 53 3 y4 → ∀ M5 : zM, M5 = zrow M3 54 (va_cpy (M3.1 55) (M3.1 54) ((0 : Int32)).toNatClampNeg ((0 : Int32)).toNatClampNeg ((5 : Int32)).toNatClampNeg) → w_X0_weighTried_87 E D post px  M5) : w_X0_weighTried_62 E D post px y3 y4 M := by
  show Z E jX0_weighTried (D + 1) 0 (zQv post px) 62 0 [.ref 53, zU, zU, .int y3, .int y4] [] M
  refine z_aload_n dX0_weighTried_62 rfl ?_
  refine z_iload_n dX0_weighTried_63 rfl ?_
  refine z_putI dX0_weighTried_64 zp_X0_18 zs_53 rfl rfl rfl ?_
  generalize hhM1 : zup M 53 2 y3 = M1
  have h2 := h M1 hhM1.symm
  refine z_aload_n dX0_weighTried_67 rfl ?_
  refine z_iload dX0_weighTried_68 rfl ?_
  refine z_putI dX0_weighTried_70 zp_X0_22 zs_53 rfl rfl rfl ?_
  generalize hhM3 : zup M1 53 3 y4 = M3
  have h4 := h2 M3 hhM3.symm
  refine z_aload_n dX0_weighTried_73 rfl ?_
  refine z_getR dX0_weighTried_74 zg_X0_15 zs_53 rfl ?_
  refine z_iconst (v := (0 : Int32)) dX0_weighTried_77 rfl ?_
  refine z_aload_n dX0_weighTried_78 rfl ?_
  refine z_getR dX0_weighTried_79 zg_X0_9 zs_53 rfl ?_
  refine z_iconst (v := (0 : Int32)) dX0_weighTried_82 rfl ?_
  refine z_iconst (v := (5 : Int32)) dX0_weighTried_83 rfl ?_
  refine z_copy dX0_weighTried_84 zc_X0_46 zs_55 zs_54 (by decide) (by decide) (by decide) (by decide) (by decide) (Nat.le_of_ble_eq_true rfl) ?_
  generalize hhM5 : zrow M3 54 (va_cpy (M3.1 55) (M3.1 54) ((0 : Int32)).toNatClampNeg ((0 : Int32)).toNatClampNeg ((5 : Int32)).toNatClampNeg) = M5
  have h6 := h4 M5 hhM5.symm
  refine z_weak [false, false, false, false, false] (ls' := [zU, zU, zU, zU, zU]) rfl rfl ?_
  exact h6
theorem t_X0_weighTried_87 {E : zEv} {D : Nat} {post : zM → Prop} {px : String → zM → Prop} {M : zM}    (h : post M) : w_X0_weighTried_87 E D post px  M := by
  show Z E jX0_weighTried (D + 1) 0 (zQv post px) 87 0 [zU, zU, zU, zU, zU] [] M
  exact z_vret dX0_weighTried_87 rfl (by decide) h
def w_X0_changesTo_4 (E : zEv) (D : Nat) (post : Int32 → zM → Prop) (px : String → zM → Prop)  (y2 : Int32) (y3 : Int32) (M : zM) : Prop := Z E jX0_changesTo D 0 (zQi post px) 4 0 [.ref 53, .ref 62, .int y2, .int y3, zU] [] M
def w_X0_changesTo_17 (E : zEv) (D : Nat) (post : Int32 → zM → Prop) (px : String → zM → Prop)  (y2 : Int32) (y3 : Int32) (y4 : Int32) (M : zM) : Prop := Z E jX0_changesTo D 0 (zQi post px) 17 0 [.ref 53, .ref 62, .int y2, .int y3, .int y4] [] M
def w_X0_changesTo_55 (E : zEv) (D : Nat) (post : Int32 → zM → Prop) (px : String → zM → Prop)  (y2 : Int32) (y3 : Int32) (y4 : Int32) (M : zM) : Prop := Z E jX0_changesTo D 0 (zQi post px) 55 0 [.ref 53, .ref 62, .int y2, .int y3, .int y4] [] M
theorem e_X0_changesTo {E : zEv} {D : Nat} {post : Int32 → zM → Prop} {px : String → zM → Prop} {M : zM}   (h : w_X0_changesTo_4 E D post px (0 : Int32) (0 : Int32) M) : zCi E jX0_changesTo D 0 [.ref 53, .ref 62] M post px := by
  refine z_meth (by decide) (Nat.le_of_ble_eq_true rfl) ?_
  show Z E jX0_changesTo D 0 (zQi post px) 0 0 [.ref 53, .ref 62, zU, zU, zU] [] M
  refine z_iconst (v := (0 : Int32)) dX0_changesTo_0 rfl ?_
  refine z_istore_n dX0_changesTo_1 (by decide) (ls' := [.ref 53, .ref 62, .int (0 : Int32), zU, zU]) rfl ?_
  refine z_iconst (v := (0 : Int32)) dX0_changesTo_2 rfl ?_
  refine z_istore_n dX0_changesTo_3 (by decide) (ls' := [.ref 53, .ref 62, .int (0 : Int32), .int (0 : Int32), zU]) rfl ?_
  exact h
theorem t_X0_changesTo_4 {E : zEv} {D : Nat} {post : Int32 → zM → Prop} {px : String → zM → Prop} {M : zM}   {y2 : Int32} {y3 : Int32} (h : (((M.1 62 6) ≤ y3 → post y2 M) ∧ (¬ (M.1 62 6) ≤ y3 → w_X0_changesTo_17 E D post px y2 y3 (y3 + (1 : Int32)) M))) : w_X0_changesTo_4 E D post px y2 y3 M := by
  show Z E jX0_changesTo D 0 (zQi post px) 4 0 [.ref 53, .ref 62, .int y2, .int y3, zU] [] M
  refine z_iload_n dX0_changesTo_4 rfl ?_
  refine z_aload_n dX0_changesTo_5 rfl ?_
  refine z_getI dX0_changesTo_6 zg_X0_29 zs_62 rfl ?_
  refine z_icmp_ge (tgt := 67) dX0_changesTo_9 (by decide) (fun g1 => ?_) (fun g1 => ?_)
  · have h2 := h.1 g1
    refine z_iload_n dX0_changesTo_67 rfl ?_
    exact z_iret dX0_changesTo_68 rfl rfl (by decide) h2
  · have h3 := h.2 g1
    refine z_iload_n dX0_changesTo_12 rfl ?_
    refine z_iconst (v := (1 : Int32)) dX0_changesTo_13 rfl ?_
    refine z_iadd dX0_changesTo_14 ?_
    refine z_istore dX0_changesTo_15 (by decide) (ls' := [.ref 53, .ref 62, .int y2, .int y3, .int (y3 + (1 : Int32))]) rfl ?_
    exact h3
theorem t_X0_changesTo_17 {E : zEv} {D : Nat} {post : Int32 → zM → Prop} {px : String → zM → Prop} {M : zM}   {y2 : Int32} {y3 : Int32} {y4 : Int32} (h : (((M.1 62 6) ≤ y4 → w_X0_changesTo_4 E D post px y2 (y3 + (1 : Int32)) M) ∧ (¬ (M.1 62 6) ≤ y4 → vp_in y3 5 ∧ vp_in (M.1 55 (y3).toNatClampNeg) 5 ∧ vp_in y4 5 ∧ vp_in (M.1 55 (y4).toNatClampNeg) 5 ∧ (((M.1 67 ((M.1 55 (y3).toNatClampNeg)).toNatClampNeg) ≤ (M.1 67 ((M.1 55 (y4).toNatClampNeg)).toNatClampNeg) → w_X0_changesTo_55 E D post px y2 y3 y4 M) ∧ (¬ (M.1 67 ((M.1 55 (y3).toNatClampNeg)).toNatClampNeg) ≤ (M.1 67 ((M.1 55 (y4).toNatClampNeg)).toNatClampNeg) → w_X0_changesTo_55 E D post px (y2 + (1 : Int32)) y3 y4 M))))) : w_X0_changesTo_17 E D post px y2 y3 y4 M := by
  show Z E jX0_changesTo D 0 (zQi post px) 17 0 [.ref 53, .ref 62, .int y2, .int y3, .int y4] [] M
  refine z_iload dX0_changesTo_17 rfl ?_
  refine z_aload_n dX0_changesTo_19 rfl ?_
  refine z_getI dX0_changesTo_20 zg_X0_29 zs_62 rfl ?_
  refine z_icmp_ge (tgt := 61) dX0_changesTo_23 (by decide) (fun g1 => ?_) (fun g1 => ?_)
  · have h2 := h.1 g1
    refine z_iinc dX0_changesTo_61 rfl (by decide) (ls' := [.ref 53, .ref 62, .int y2, .int (y3 + (1 : Int32)), .int y4]) rfl ?_
    refine z_goto (tgt := 4) dX0_changesTo_64 (by decide) ?_
    refine z_weak [true, true, true, true, false] (ls' := [.ref 53, .ref 62, .int y2, .int (y3 + (1 : Int32)), zU]) rfl rfl ?_
    exact h2
  · have h3 := h.2 g1
    refine z_aload_n dX0_changesTo_26 rfl ?_
    refine z_getR dX0_changesTo_27 zg_X0_52 zs_62 rfl ?_
    refine z_aload_n dX0_changesTo_30 rfl ?_
    refine z_getR dX0_changesTo_31 zg_X0_15 zs_53 rfl ?_
    refine z_iload_n dX0_changesTo_34 rfl ?_
    obtain ⟨g5, h4⟩ := h3
    refine z_iald dX0_changesTo_35 zs_55 g5 ?_
    obtain ⟨g7, h6⟩ := h4
    refine z_iald dX0_changesTo_36 zs_67 g7 ?_
    refine z_aload_n dX0_changesTo_37 rfl ?_
    refine z_getR dX0_changesTo_38 zg_X0_52 zs_62 rfl ?_
    refine z_aload_n dX0_changesTo_41 rfl ?_
    refine z_getR dX0_changesTo_42 zg_X0_15 zs_53 rfl ?_
    refine z_iload dX0_changesTo_45 rfl ?_
    obtain ⟨g9, h8⟩ := h6
    refine z_iald dX0_changesTo_47 zs_55 g9 ?_
    obtain ⟨g11, h10⟩ := h8
    refine z_iald dX0_changesTo_48 zs_67 g11 ?_
    refine z_icmp_le (tgt := 55) dX0_changesTo_49 (by decide) (fun g12 => ?_) (fun g12 => ?_)
    · have h13 := h10.1 g12
      exact h13
    · have h14 := h10.2 g12
      refine z_iinc dX0_changesTo_52 rfl (by decide) (ls' := [.ref 53, .ref 62, .int (y2 + (1 : Int32)), .int y3, .int y4]) rfl ?_
      exact h14
theorem t_X0_changesTo_55 {E : zEv} {D : Nat} {post : Int32 → zM → Prop} {px : String → zM → Prop} {M : zM}   {y2 : Int32} {y3 : Int32} {y4 : Int32} (h : w_X0_changesTo_17 E D post px y2 y3 (y4 + (1 : Int32)) M) : w_X0_changesTo_55 E D post px y2 y3 y4 M := by
  show Z E jX0_changesTo D 0 (zQi post px) 55 0 [.ref 53, .ref 62, .int y2, .int y3, .int y4] [] M
  refine z_iinc dX0_changesTo_55 rfl (by decide) (ls' := [.ref 53, .ref 62, .int y2, .int y3, .int (y4 + (1 : Int32))]) rfl ?_
  refine z_goto (tgt := 17) dX0_changesTo_58 (by decide) ?_
  exact h
