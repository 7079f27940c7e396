def w_J7_fill_53178_5 (E : zEv) (D : Nat) (post : zM → Prop) (px : String → zM → Prop) (a : Nat) (n : Nat) (y1 : Int32) (y2 : Int32) (y3 : Int32) (M : zM) : Prop := Z E jJ7_fill_53178 D 0 (zQv post px) 5 0 [.ref a, .int y1, .int y2, .int y3] [] M
theorem e_J7_fill_53178 {E : zEv} {D : Nat} {post : zM → Prop} {px : String → zM → Prop} {M : zM} {a n : Nat} {x2 : Int32} (ha : zShape[a]? = some (.inr (0, n))) (h : w_J7_fill_53178_5 E D post px a n x2 (0 : Int32) (Int32.ofNat n) M) : zCv E jJ7_fill_53178 D 0 [.ref a, .int x2] M post px := by
  refine z_meth (by decide) (Nat.le_of_ble_eq_true rfl) ?_
  show Z E jJ7_fill_53178 D 0 (zQv post px) 0 0 [.ref a, .int x2, zU, zU] [] M
  refine z_iconst (v := (0 : Int32)) dJ7_fill_53178_0 rfl ?_
  refine z_istore_n dJ7_fill_53178_1 (by decide) (ls' := [.ref a, .int x2, .int (0 : Int32), zU]) rfl ?_
  refine z_aload_n dJ7_fill_53178_2 rfl ?_
  refine z_alen (v := (Int32.ofNat n)) dJ7_fill_53178_3 ha rfl ?_
  refine z_istore_n dJ7_fill_53178_4 (by decide) (ls' := [.ref a, .int x2, .int (0 : Int32), .int (Int32.ofNat n)]) rfl ?_
  exact h
theorem t_J7_fill_53178_5 {E : zEv} {D : Nat} {post : zM → Prop} {px : String → zM → Prop} {M : zM} {a : Nat} {n : Nat} (ha : zShape[a]? = some (.inr (0, n))) {y1 : Int32} {y2 : Int32} {y3 : Int32} (h : ((y3 ≤ y2 → post M) ∧ (¬ y3 ≤ y2 → vp_in y2 n ∧ ∀ M6 : zM, M6 = zup M a (y2).toNatClampNeg y1 → w_J7_fill_53178_5 E D post px a n y1 (y2 + (1 : Int32)) y3 M6))) : w_J7_fill_53178_5 E D post px a n y1 y2 y3 M := by
  show Z E jJ7_fill_53178 D 0 (zQv post px) 5 0 [.ref a, .int y1, .int y2, .int y3] [] M
  refine z_iload_n dJ7_fill_53178_5 rfl ?_
  refine z_iload_n dJ7_fill_53178_6 rfl ?_
  refine z_icmp_ge (tgt := 20) dJ7_fill_53178_7 (by decide) (fun g1 => ?_) (fun g1 => ?_)
  · have h2 := h.1 g1
    exact z_vret dJ7_fill_53178_20 rfl (by decide) h2
  · have h3 := h.2 g1
    refine z_aload_n dJ7_fill_53178_10 rfl ?_
    refine z_iload_n dJ7_fill_53178_11 rfl ?_
    refine z_iload_n dJ7_fill_53178_12 rfl ?_
    obtain ⟨g5, h4⟩ := h3
    refine z_iast dJ7_fill_53178_13 ha g5 ?_
    generalize hhM6 : zup M a (y2).toNatClampNeg y1 = M6
    have h7 := h4 M6 hhM6.symm
    refine z_iinc dJ7_fill_53178_14 rfl (by decide) (ls' := [.ref a, .int y1, .int (y2 + (1 : Int32)), .int y3]) rfl ?_
    refine z_goto (tgt := 5) dJ7_fill_53178_17 (by decide) ?_
    exact h7
