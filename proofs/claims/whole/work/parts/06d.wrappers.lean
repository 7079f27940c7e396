theorem e_L_court {E : zEv} {D : Nat} {post : Int32 → zM → Prop} {M : zM}   (h : zCi E jX11_court D 1 [.ref 19] M (fun r3 M1 => ∀ M4 : zM, M4 = zupL M1 18 ((0 : Int32)).toNatClampNeg ((r3).toInt64) → post (0 : Int32) M4) (fun X M9 => (X = "java/lang/IllegalArgumentException" ∧ post (1 : Int32) M9) ∨ (X = "java/lang/UnsupportedOperationException" ∧ post (2 : Int32) M9))) : zCWi E jL_court (D + 1) 1 [.ref 19, .ref 18] M post := by
  refine z_methW (by decide) (Nat.le_of_ble_eq_true rfl) ?_
  show Z E jL_court (D + 1) 1 (zQi post (fun _ _ => False)) 0 0 [.ref 19, .ref 18, zU] [] M
  refine z_aload_n dL_court_0 rfl ?_
  refine z_iconst (v := (0 : Int32)) dL_court_1 rfl ?_
  refine z_aload_n dL_court_2 rfl ?_
  refine z_callCi (px1 := (fun X M9 => (X = "java/lang/IllegalArgumentException" ∧ post (1 : Int32) M9) ∨ (X = "java/lang/UnsupportedOperationException" ∧ post (2 : Int32) M9))) (As := []) (st := [.int (0 : Int32), .ref 18]) dL_court_3 zi_L_7 rfl rfl zs_19 rfl rfl (Nat.le_of_ble_eq_true rfl) (by decide) (fun X M9 hx => by
    rcases hx with ⟨rfl, hx⟩ | ⟨rfl, hx⟩
    · exact ⟨11, 1, ⟨[], ⟨0, 8, 11, 13⟩, [⟨0, 8, 14, 15⟩], rfl, (fun z hz => nomatch hz), by decide, by decide, ⟨"java/lang/IllegalArgumentException", zw_624, zw_764⟩, rfl⟩, ⟨rfl, 1, rfl, Or.inl ⟨2, by decide, dL_court_11, dL_court_12, dL_court_13⟩⟩, hx⟩
    · exact ⟨14, 2, ⟨[⟨0, 8, 11, 13⟩], ⟨0, 8, 14, 15⟩, [], rfl, (fun z hz => by rw [List.mem_singleton.mp hz]; exact ⟨by decide, by decide, "java/lang/IllegalArgumentException", zw_624, fun U h => h.2.1⟩), by decide, by decide, ⟨"java/lang/UnsupportedOperationException", zw_625, zw_833⟩, rfl⟩, ⟨rfl, 2, rfl, Or.inl ⟨2, by decide, dL_court_14, dL_court_15, dL_court_16⟩⟩, hx⟩) h ?_
  intro r3 M1 h2
  refine z_i2l (v := ((r3).toInt64)) dL_court_6 rfl ?_
  refine z_last dL_court_7 zs_18 (by unfold vp_in; decide) ?_
  generalize hhM4 : zupL M1 18 ((0 : Int32)).toNatClampNeg ((r3).toInt64) = M4
  have h5 := h2 M4 hhM4.symm
  refine z_goto (tgt := 17) dL_court_8 (by decide) ?_
  refine z_iconst (v := (0 : Int32)) dL_court_17 rfl ?_
  exact z_iret dL_court_18 rfl rfl (by decide) h5
theorem e_L_law {E : zEv} {D : Nat} {post : Int32 → zM → Prop} {M : zM}   (h : zCi E jX11_law D 1 [.ref 19] M (fun r3 M1 => ∀ M4 : zM, M4 = zupL M1 18 ((0 : Int32)).toNatClampNeg ((r3).toInt64) → post (0 : Int32) M4) (fun X M9 => (X = "java/lang/IllegalArgumentException" ∧ post (1 : Int32) M9))) : zCWi E jL_law (D + 1) 1 [.ref 19, .ref 18] M post := by
  refine z_methW (by decide) (Nat.le_of_ble_eq_true rfl) ?_
  show Z E jL_law (D + 1) 1 (zQi post (fun _ _ => False)) 0 0 [.ref 19, .ref 18, zU] [] M
  refine z_aload_n dL_law_0 rfl ?_
  refine z_iconst (v := (0 : Int32)) dL_law_1 rfl ?_
  refine z_aload_n dL_law_2 rfl ?_
  refine z_callCi (px1 := (fun X M9 => (X = "java/lang/IllegalArgumentException" ∧ post (1 : Int32) M9))) (As := []) (st := [.int (0 : Int32), .ref 18]) dL_law_3 zi_L_17 rfl rfl zs_19 rfl rfl (Nat.le_of_ble_eq_true rfl) (by decide) (fun X M9 hx => by
    obtain ⟨rfl, hx⟩ := hx
    · exact ⟨11, 1, ⟨[], ⟨0, 8, 11, 13⟩, [], rfl, (fun z hz => nomatch hz), by decide, by decide, ⟨"java/lang/IllegalArgumentException", zw_624, zw_764⟩, rfl⟩, ⟨rfl, 1, rfl, Or.inl ⟨2, by decide, dL_law_11, dL_law_12, dL_law_13⟩⟩, hx⟩) h ?_
  intro r3 M1 h2
  refine z_i2l (v := ((r3).toInt64)) dL_law_6 rfl ?_
  refine z_last dL_law_7 zs_18 (by unfold vp_in; decide) ?_
  generalize hhM4 : zupL M1 18 ((0 : Int32)).toNatClampNeg ((r3).toInt64) = M4
  have h5 := h2 M4 hhM4.symm
  refine z_goto (tgt := 14) dL_law_8 (by decide) ?_
  refine z_iconst (v := (0 : Int32)) dL_law_14 rfl ?_
  exact z_iret dL_law_15 rfl rfl (by decide) h5
theorem e_L_witness {E : zEv} {D : Nat} {post : Int32 → zM → Prop} {M : zM} {x2 : Int32} {x3 : Int32}  (h : zCi E jX11_witness D 2 [.ref 19, .int x2, .int x3] M (fun r3 M1 => ∀ M4 : zM, M4 = zupL M1 18 ((0 : Int32)).toNatClampNeg ((r3).toInt64) → post (0 : Int32) M4) (fun X M9 => (X = "java/lang/IndexOutOfBoundsException" ∧ post (1 : Int32) M9) ∨ (X = "java/util/NoSuchElementException" ∧ post (2 : Int32) M9))) : zCWi E jL_witness (D + 1) 2 [.ref 19, .int x2, .int x3, .ref 18] M post := by
  refine z_methW (by decide) (Nat.le_of_ble_eq_true rfl) ?_
  show Z E jL_witness (D + 1) 2 (zQi post (fun _ _ => False)) 0 0 [.ref 19, .int x2, .int x3, .ref 18, zU] [] M
  refine z_aload_n dL_witness_0 rfl ?_
  refine z_iconst (v := (0 : Int32)) dL_witness_1 rfl ?_
  refine z_aload_n dL_witness_2 rfl ?_
  refine z_iload_n dL_witness_3 rfl ?_
  refine z_iload_n dL_witness_4 rfl ?_
  refine z_callCi (px1 := (fun X M9 => (X = "java/lang/IndexOutOfBoundsException" ∧ post (1 : Int32) M9) ∨ (X = "java/util/NoSuchElementException" ∧ post (2 : Int32) M9))) (As := [.int x2, .int x3]) (st := [.int (0 : Int32), .ref 18]) dL_witness_5 zi_L_20 rfl rfl zs_19 rfl rfl (Nat.le_of_ble_eq_true rfl) (by decide) (fun X M9 hx => by
    rcases hx with ⟨rfl, hx⟩ | ⟨rfl, hx⟩
    · exact ⟨13, 1, ⟨[], ⟨0, 10, 13, 24⟩, [⟨0, 10, 17, 26⟩], rfl, (fun z hz => nomatch hz), by decide, by decide, ⟨"java/lang/IndexOutOfBoundsException", zw_925, zw_937⟩, rfl⟩, ⟨rfl, 1, rfl, Or.inr ⟨4, by decide, dL_witness_13, dL_witness_15, dL_witness_16⟩⟩, hx⟩
    · exact ⟨17, 2, ⟨[⟨0, 10, 13, 24⟩], ⟨0, 10, 17, 26⟩, [], rfl, (fun z hz => by rw [List.mem_singleton.mp hz]; exact ⟨by decide, by decide, "java/lang/IndexOutOfBoundsException", zw_925, fun U h => h.1⟩), by decide, by decide, ⟨"java/util/NoSuchElementException", zw_926, zw_970⟩, rfl⟩, ⟨rfl, 2, rfl, Or.inr ⟨4, by decide, dL_witness_17, dL_witness_19, dL_witness_20⟩⟩, hx⟩) h ?_
  intro r3 M1 h2
  refine z_i2l (v := ((r3).toInt64)) dL_witness_8 rfl ?_
  refine z_last dL_witness_9 zs_18 (by unfold vp_in; decide) ?_
  generalize hhM4 : zupL M1 18 ((0 : Int32)).toNatClampNeg ((r3).toInt64) = M4
  have h5 := h2 M4 hhM4.symm
  refine z_goto (tgt := 21) dL_witness_10 (by decide) ?_
  refine z_iconst (v := (0 : Int32)) dL_witness_21 rfl ?_
  exact z_iret dL_witness_22 rfl rfl (by decide) h5
theorem e_L_thing {E : zEv} {D : Nat} {post : Int32 → zM → Prop} {M : zM} {x2 : Int32} {x3 : Int32}  (h : zCi E jX11_thing D 2 [.ref 19, .int x2, .int x3] M (fun r3 M1 => ∀ M4 : zM, M4 = zupL M1 18 ((0 : Int32)).toNatClampNeg ((r3).toInt64) → post (0 : Int32) M4) (fun X M9 => (X = "java/lang/IndexOutOfBoundsException" ∧ post (1 : Int32) M9) ∨ (X = "java/util/NoSuchElementException" ∧ post (2 : Int32) M9))) : zCWi E jL_thing (D + 1) 2 [.ref 19, .int x2, .int x3, .ref 18] M post := by
  refine z_methW (by decide) (Nat.le_of_ble_eq_true rfl) ?_
  show Z E jL_thing (D + 1) 2 (zQi post (fun _ _ => False)) 0 0 [.ref 19, .int x2, .int x3, .ref 18, zU] [] M
  refine z_aload_n dL_thing_0 rfl ?_
  refine z_iconst (v := (0 : Int32)) dL_thing_1 rfl ?_
  refine z_aload_n dL_thing_2 rfl ?_
  refine z_iload_n dL_thing_3 rfl ?_
  refine z_iload_n dL_thing_4 rfl ?_
  refine z_callCi (px1 := (fun X M9 => (X = "java/lang/IndexOutOfBoundsException" ∧ post (1 : Int32) M9) ∨ (X = "java/util/NoSuchElementException" ∧ post (2 : Int32) M9))) (As := [.int x2, .int x3]) (st := [.int (0 : Int32), .ref 18]) dL_thing_5 zi_L_28 rfl rfl zs_19 rfl rfl (Nat.le_of_ble_eq_true rfl) (by decide) (fun X M9 hx => by
    rcases hx with ⟨rfl, hx⟩ | ⟨rfl, hx⟩
    · exact ⟨13, 1, ⟨[], ⟨0, 10, 13, 24⟩, [⟨0, 10, 17, 26⟩], rfl, (fun z hz => nomatch hz), by decide, by decide, ⟨"java/lang/IndexOutOfBoundsException", zw_925, zw_937⟩, rfl⟩, ⟨rfl, 1, rfl, Or.inr ⟨4, by decide, dL_thing_13, dL_thing_15, dL_thing_16⟩⟩, hx⟩
    · exact ⟨17, 2, ⟨[⟨0, 10, 13, 24⟩], ⟨0, 10, 17, 26⟩, [], rfl, (fun z hz => by rw [List.mem_singleton.mp hz]; exact ⟨by decide, by decide, "java/lang/IndexOutOfBoundsException", zw_925, fun U h => h.1⟩), by decide, by decide, ⟨"java/util/NoSuchElementException", zw_926, zw_970⟩, rfl⟩, ⟨rfl, 2, rfl, Or.inr ⟨4, by decide, dL_thing_17, dL_thing_19, dL_thing_20⟩⟩, hx⟩) h ?_
  intro r3 M1 h2
  refine z_i2l (v := ((r3).toInt64)) dL_thing_8 rfl ?_
  refine z_last dL_thing_9 zs_18 (by unfold vp_in; decide) ?_
  generalize hhM4 : zupL M1 18 ((0 : Int32)).toNatClampNeg ((r3).toInt64) = M4
  have h5 := h2 M4 hhM4.symm
  refine z_goto (tgt := 21) dL_thing_10 (by decide) ?_
  refine z_iconst (v := (0 : Int32)) dL_thing_21 rfl ?_
  exact z_iret dL_thing_22 rfl rfl (by decide) h5
theorem e_L_asks {E : zEv} {D : Nat} {post : Int32 → zM → Prop} {M : zM} {x2 : Int32}  (h : zCi E jX11_asks D 1 [.ref 19, .int x2] M (fun r3 M1 => ∀ M4 : zM, M4 = zupL M1 18 ((0 : Int32)).toNatClampNeg ((r3).toInt64) → post (0 : Int32) M4) (fun X M9 => (X = "java/lang/IndexOutOfBoundsException" ∧ post (1 : Int32) M9))) : zCWi E jL_asks (D + 1) 1 [.ref 19, .int x2, .ref 18] M post := by
  refine z_methW (by decide) (Nat.le_of_ble_eq_true rfl) ?_
  show Z E jL_asks (D + 1) 1 (zQi post (fun _ _ => False)) 0 0 [.ref 19, .int x2, .ref 18, zU] [] M
  refine z_aload_n dL_asks_0 rfl ?_
  refine z_iconst (v := (0 : Int32)) dL_asks_1 rfl ?_
  refine z_aload_n dL_asks_2 rfl ?_
  refine z_iload_n dL_asks_3 rfl ?_
  refine z_callCi (px1 := (fun X M9 => (X = "java/lang/IndexOutOfBoundsException" ∧ post (1 : Int32) M9))) (As := [.int x2]) (st := [.int (0 : Int32), .ref 18]) dL_asks_4 zi_L_31 rfl rfl zs_19 rfl rfl (Nat.le_of_ble_eq_true rfl) (by decide) (fun X M9 hx => by
    obtain ⟨rfl, hx⟩ := hx
    · exact ⟨12, 1, ⟨[], ⟨0, 9, 12, 24⟩, [], rfl, (fun z hz => nomatch hz), by decide, by decide, ⟨"java/lang/IndexOutOfBoundsException", zw_925, zw_937⟩, rfl⟩, ⟨rfl, 1, rfl, Or.inl ⟨3, by decide, dL_asks_12, dL_asks_13, dL_asks_14⟩⟩, hx⟩) h ?_
  intro r3 M1 h2
  refine z_i2l (v := ((r3).toInt64)) dL_asks_7 rfl ?_
  refine z_last dL_asks_8 zs_18 (by unfold vp_in; decide) ?_
  generalize hhM4 : zupL M1 18 ((0 : Int32)).toNatClampNeg ((r3).toInt64) = M4
  have h5 := h2 M4 hhM4.symm
  refine z_goto (tgt := 15) dL_asks_9 (by decide) ?_
  refine z_iconst (v := (0 : Int32)) dL_asks_15 rfl ?_
  exact z_iret dL_asks_16 rfl rfl (by decide) h5
theorem e_L_sharp {E : zEv} {D : Nat} {post : Int32 → zM → Prop} {M : zM} {x2 : Int32}  (h : zCi E jX11_sharp D 1 [.ref 19, .int x2] M (fun r3 M1 => ∀ M4 : zM, M4 = zupL M1 18 ((0 : Int32)).toNatClampNeg ((r3).toInt64) → post (0 : Int32) M4) (fun X M9 => (X = "java/lang/IndexOutOfBoundsException" ∧ post (1 : Int32) M9))) : zCWi E jL_sharp (D + 1) 1 [.ref 19, .int x2, .ref 18] M post := by
  refine z_methW (by decide) (Nat.le_of_ble_eq_true rfl) ?_
  show Z E jL_sharp (D + 1) 1 (zQi post (fun _ _ => False)) 0 0 [.ref 19, .int x2, .ref 18, zU] [] M
  refine z_aload_n dL_sharp_0 rfl ?_
  refine z_iconst (v := (0 : Int32)) dL_sharp_1 rfl ?_
  refine z_aload_n dL_sharp_2 rfl ?_
  refine z_iload_n dL_sharp_3 rfl ?_
  refine z_callCi (px1 := (fun X M9 => (X = "java/lang/IndexOutOfBoundsException" ∧ post (1 : Int32) M9))) (As := [.int x2]) (st := [.int (0 : Int32), .ref 18]) dL_sharp_4 zi_L_35 rfl rfl zs_19 rfl rfl (Nat.le_of_ble_eq_true rfl) (by decide) (fun X M9 hx => by
    obtain ⟨rfl, hx⟩ := hx
    · exact ⟨12, 1, ⟨[], ⟨0, 9, 12, 24⟩, [], rfl, (fun z hz => nomatch hz), by decide, by decide, ⟨"java/lang/IndexOutOfBoundsException", zw_925, zw_937⟩, rfl⟩, ⟨rfl, 1, rfl, Or.inl ⟨3, by decide, dL_sharp_12, dL_sharp_13, dL_sharp_14⟩⟩, hx⟩) h ?_
  intro r3 M1 h2
  refine z_i2l (v := ((r3).toInt64)) dL_sharp_7 rfl ?_
  refine z_last dL_sharp_8 zs_18 (by unfold vp_in; decide) ?_
  generalize hhM4 : zupL M1 18 ((0 : Int32)).toNatClampNeg ((r3).toInt64) = M4
  have h5 := h2 M4 hhM4.symm
  refine z_goto (tgt := 15) dL_sharp_9 (by decide) ?_
  refine z_iconst (v := (0 : Int32)) dL_sharp_15 rfl ?_
  exact z_iret dL_sharp_16 rfl rfl (by decide) h5
theorem e_L_stands {E : zEv} {D : Nat} {post : Int32 → zM → Prop} {M : zM} {x2 : Int32}  (h : zCi E jX11_stands D 1 [.ref 19, .int x2] M (fun r3 M1 => ∀ M4 : zM, M4 = zupL M1 18 ((0 : Int32)).toNatClampNeg ((r3).toInt64) → post (0 : Int32) M4) (fun X M9 => (X = "java/lang/IndexOutOfBoundsException" ∧ post (1 : Int32) M9))) : zCWi E jL_stands (D + 1) 1 [.ref 19, .int x2, .ref 18] M post := by
  refine z_methW (by decide) (Nat.le_of_ble_eq_true rfl) ?_
  show Z E jL_stands (D + 1) 1 (zQi post (fun _ _ => False)) 0 0 [.ref 19, .int x2, .ref 18, zU] [] M
  refine z_aload_n dL_stands_0 rfl ?_
  refine z_iconst (v := (0 : Int32)) dL_stands_1 rfl ?_
  refine z_aload_n dL_stands_2 rfl ?_
  refine z_iload_n dL_stands_3 rfl ?_
  refine z_callCi (px1 := (fun X M9 => (X = "java/lang/IndexOutOfBoundsException" ∧ post (1 : Int32) M9))) (As := [.int x2]) (st := [.int (0 : Int32), .ref 18]) dL_stands_4 zi_L_38 rfl rfl zs_19 rfl rfl (Nat.le_of_ble_eq_true rfl) (by decide) (fun X M9 hx => by
    obtain ⟨rfl, hx⟩ := hx
    · exact ⟨12, 1, ⟨[], ⟨0, 9, 12, 24⟩, [], rfl, (fun z hz => nomatch hz), by decide, by decide, ⟨"java/lang/IndexOutOfBoundsException", zw_925, zw_937⟩, rfl⟩, ⟨rfl, 1, rfl, Or.inl ⟨3, by decide, dL_stands_12, dL_stands_13, dL_stands_14⟩⟩, hx⟩) h ?_
  intro r3 M1 h2
  refine z_i2l (v := ((r3).toInt64)) dL_stands_7 rfl ?_
  refine z_last dL_stands_8 zs_18 (by unfold vp_in; decide) ?_
  generalize hhM4 : zupL M1 18 ((0 : Int32)).toNatClampNeg ((r3).toInt64) = M4
  have h5 := h2 M4 hhM4.symm
  refine z_goto (tgt := 15) dL_stands_9 (by decide) ?_
  refine z_iconst (v := (0 : Int32)) dL_stands_15 rfl ?_
  exact z_iret dL_stands_16 rfl rfl (by decide) h5
theorem e_L_moments {E : zEv} {D : Nat} {post : Int32 → zM → Prop} {M : zM} {x2 : Int32}  (h : zCi E jX11_moments D 1 [.ref 19, .int x2] M (fun r3 M1 => ∀ M4 : zM, M4 = zupL M1 18 ((0 : Int32)).toNatClampNeg ((r3).toInt64) → post (0 : Int32) M4) (fun X M9 => (X = "java/lang/IllegalArgumentException" ∧ post (1 : Int32) M9))) : zCWi E jL_moments (D + 1) 1 [.ref 19, .int x2, .ref 18] M post := by
  refine z_methW (by decide) (Nat.le_of_ble_eq_true rfl) ?_
  show Z E jL_moments (D + 1) 1 (zQi post (fun _ _ => False)) 0 0 [.ref 19, .int x2, .ref 18, zU] [] M
  refine z_aload_n dL_moments_0 rfl ?_
  refine z_iconst (v := (0 : Int32)) dL_moments_1 rfl ?_
  refine z_aload_n dL_moments_2 rfl ?_
  refine z_iload_n dL_moments_3 rfl ?_
  refine z_callCi (px1 := (fun X M9 => (X = "java/lang/IllegalArgumentException" ∧ post (1 : Int32) M9))) (As := [.int x2]) (st := [.int (0 : Int32), .ref 18]) dL_moments_4 zi_L_41 rfl rfl zs_19 rfl rfl (Nat.le_of_ble_eq_true rfl) (by decide) (fun X M9 hx => by
    obtain ⟨rfl, hx⟩ := hx
    · exact ⟨12, 1, ⟨[], ⟨0, 9, 12, 13⟩, [], rfl, (fun z hz => nomatch hz), by decide, by decide, ⟨"java/lang/IllegalArgumentException", zw_624, zw_764⟩, rfl⟩, ⟨rfl, 1, rfl, Or.inl ⟨3, by decide, dL_moments_12, dL_moments_13, dL_moments_14⟩⟩, hx⟩) h ?_
  intro r3 M1 h2
  refine z_i2l (v := ((r3).toInt64)) dL_moments_7 rfl ?_
  refine z_last dL_moments_8 zs_18 (by unfold vp_in; decide) ?_
  generalize hhM4 : zupL M1 18 ((0 : Int32)).toNatClampNeg ((r3).toInt64) = M4
  have h5 := h2 M4 hhM4.symm
  refine z_goto (tgt := 15) dL_moments_9 (by decide) ?_
  refine z_iconst (v := (0 : Int32)) dL_moments_15 rfl ?_
  exact z_iret dL_moments_16 rfl rfl (by decide) h5
theorem e_L_say {E : zEv} {D : Nat} {post : Int32 → zM → Prop} {M : zM} {x2 : Int32}  (h : zCi E jX11_say D 1 [.ref 19, .int x2] M (fun r3 M1 => ∀ M4 : zM, M4 = zupL M1 18 ((0 : Int32)).toNatClampNeg ((r3).toInt64) → post (0 : Int32) M4) (fun X M9 => (X = "java/lang/IndexOutOfBoundsException" ∧ post (1 : Int32) M9))) : zCWi E jL_say (D + 1) 1 [.ref 19, .int x2, .ref 18] M post := by
  refine z_methW (by decide) (Nat.le_of_ble_eq_true rfl) ?_
  show Z E jL_say (D + 1) 1 (zQi post (fun _ _ => False)) 0 0 [.ref 19, .int x2, .ref 18, zU] [] M
  refine z_aload_n dL_say_0 rfl ?_
  refine z_iconst (v := (0 : Int32)) dL_say_1 rfl ?_
  refine z_aload_n dL_say_2 rfl ?_
  refine z_iload_n dL_say_3 rfl ?_
  refine z_callCi (px1 := (fun X M9 => (X = "java/lang/IndexOutOfBoundsException" ∧ post (1 : Int32) M9))) (As := [.int x2]) (st := [.int (0 : Int32), .ref 18]) dL_say_4 zi_L_44 rfl rfl zs_19 rfl rfl (Nat.le_of_ble_eq_true rfl) (by decide) (fun X M9 hx => by
    obtain ⟨rfl, hx⟩ := hx
    · exact ⟨12, 1, ⟨[], ⟨0, 9, 12, 24⟩, [], rfl, (fun z hz => nomatch hz), by decide, by decide, ⟨"java/lang/IndexOutOfBoundsException", zw_925, zw_937⟩, rfl⟩, ⟨rfl, 1, rfl, Or.inl ⟨3, by decide, dL_say_12, dL_say_13, dL_say_14⟩⟩, hx⟩) h ?_
  intro r3 M1 h2
  refine z_i2l (v := ((r3).toInt64)) dL_say_7 rfl ?_
  refine z_last dL_say_8 zs_18 (by unfold vp_in; decide) ?_
  generalize hhM4 : zupL M1 18 ((0 : Int32)).toNatClampNeg ((r3).toInt64) = M4
  have h5 := h2 M4 hhM4.symm
  refine z_goto (tgt := 15) dL_say_9 (by decide) ?_
  refine z_iconst (v := (0 : Int32)) dL_say_15 rfl ?_
  exact z_iret dL_say_16 rfl rfl (by decide) h5
theorem e_L_change {E : zEv} {D : Nat} {post : Int32 → zM → Prop} {M : zM} {x2 : Int32} {x3 : Int32}  (h : zCi E jX11_change D 3 [.ref 19, .int x2, .int x3] M (fun r3 M1 => ∀ M4 : zM, M4 = zupL M1 18 ((0 : Int32)).toNatClampNeg ((r3).toInt64) → post (0 : Int32) M4) (fun X M9 => (X = "java/lang/IndexOutOfBoundsException" ∧ post (1 : Int32) M9) ∨ (X = "java/lang/IllegalArgumentException" ∧ post (2 : Int32) M9))) : zCWi E jL_change (D + 1) 3 [.ref 19, .int x2, .int x3, .ref 18] M post := by
  refine z_methW (by decide) (Nat.le_of_ble_eq_true rfl) ?_
  show Z E jL_change (D + 1) 3 (zQi post (fun _ _ => False)) 0 0 [.ref 19, .int x2, .int x3, .ref 18, zU] [] M
  refine z_aload_n dL_change_0 rfl ?_
  refine z_iconst (v := (0 : Int32)) dL_change_1 rfl ?_
  refine z_aload_n dL_change_2 rfl ?_
  refine z_iload_n dL_change_3 rfl ?_
  refine z_iload_n dL_change_4 rfl ?_
  refine z_callCi (px1 := (fun X M9 => (X = "java/lang/IndexOutOfBoundsException" ∧ post (1 : Int32) M9) ∨ (X = "java/lang/IllegalArgumentException" ∧ post (2 : Int32) M9))) (As := [.int x2, .int x3]) (st := [.int (0 : Int32), .ref 18]) dL_change_5 zi_L_47 rfl rfl zs_19 rfl rfl (Nat.le_of_ble_eq_true rfl) (by decide) (fun X M9 hx => by
    rcases hx with ⟨rfl, hx⟩ | ⟨rfl, hx⟩
    · exact ⟨13, 1, ⟨[], ⟨0, 10, 13, 24⟩, [⟨0, 10, 17, 13⟩], rfl, (fun z hz => nomatch hz), by decide, by decide, ⟨"java/lang/IndexOutOfBoundsException", zw_925, zw_937⟩, rfl⟩, ⟨rfl, 1, rfl, Or.inr ⟨4, by decide, dL_change_13, dL_change_15, dL_change_16⟩⟩, hx⟩
    · exact ⟨17, 2, ⟨[⟨0, 10, 13, 24⟩], ⟨0, 10, 17, 13⟩, [], rfl, (fun z hz => by rw [List.mem_singleton.mp hz]; exact ⟨by decide, by decide, "java/lang/IndexOutOfBoundsException", zw_925, fun U h => h.2.2⟩), by decide, by decide, ⟨"java/lang/IllegalArgumentException", zw_624, zw_764⟩, rfl⟩, ⟨rfl, 2, rfl, Or.inr ⟨4, by decide, dL_change_17, dL_change_19, dL_change_20⟩⟩, hx⟩) h ?_
  intro r3 M1 h2
  refine z_i2l (v := ((r3).toInt64)) dL_change_8 rfl ?_
  refine z_last dL_change_9 zs_18 (by unfold vp_in; decide) ?_
  generalize hhM4 : zupL M1 18 ((0 : Int32)).toNatClampNeg ((r3).toInt64) = M4
  have h5 := h2 M4 hhM4.symm
  refine z_goto (tgt := 21) dL_change_10 (by decide) ?_
  refine z_iconst (v := (0 : Int32)) dL_change_21 rfl ?_
  exact z_iret dL_change_22 rfl rfl (by decide) h5
theorem e_L_drink {E : zEv} {D : Nat} {post : Int32 → zM → Prop} {M : zM} {x2 : Int32} {x3 : Int32}  (h : zCi E jX11_drink D 2 [.ref 19, .int x2, .int x3] M (fun r3 M1 => ∀ M4 : zM, M4 = zupL M1 18 ((0 : Int32)).toNatClampNeg ((r3).toInt64) → post (0 : Int32) M4) (fun X M9 => (X = "java/lang/IndexOutOfBoundsException" ∧ post (1 : Int32) M9) ∨ (X = "java/lang/IllegalArgumentException" ∧ post (2 : Int32) M9))) : zCWi E jL_drink (D + 1) 2 [.ref 19, .int x2, .int x3, .ref 18] M post := by
  refine z_methW (by decide) (Nat.le_of_ble_eq_true rfl) ?_
  show Z E jL_drink (D + 1) 2 (zQi post (fun _ _ => False)) 0 0 [.ref 19, .int x2, .int x3, .ref 18, zU] [] M
  refine z_aload_n dL_drink_0 rfl ?_
  refine z_iconst (v := (0 : Int32)) dL_drink_1 rfl ?_
  refine z_aload_n dL_drink_2 rfl ?_
  refine z_iload_n dL_drink_3 rfl ?_
  refine z_iload_n dL_drink_4 rfl ?_
  refine z_callCi (px1 := (fun X M9 => (X = "java/lang/IndexOutOfBoundsException" ∧ post (1 : Int32) M9) ∨ (X = "java/lang/IllegalArgumentException" ∧ post (2 : Int32) M9))) (As := [.int x2, .int x3]) (st := [.int (0 : Int32), .ref 18]) dL_drink_5 zi_L_50 rfl rfl zs_19 rfl rfl (Nat.le_of_ble_eq_true rfl) (by decide) (fun X M9 hx => by
    rcases hx with ⟨rfl, hx⟩ | ⟨rfl, hx⟩
    · exact ⟨13, 1, ⟨[], ⟨0, 10, 13, 24⟩, [⟨0, 10, 17, 13⟩], rfl, (fun z hz => nomatch hz), by decide, by decide, ⟨"java/lang/IndexOutOfBoundsException", zw_925, zw_937⟩, rfl⟩, ⟨rfl, 1, rfl, Or.inr ⟨4, by decide, dL_drink_13, dL_drink_15, dL_drink_16⟩⟩, hx⟩
    · exact ⟨17, 2, ⟨[⟨0, 10, 13, 24⟩], ⟨0, 10, 17, 13⟩, [], rfl, (fun z hz => by rw [List.mem_singleton.mp hz]; exact ⟨by decide, by decide, "java/lang/IndexOutOfBoundsException", zw_925, fun U h => h.2.2⟩), by decide, by decide, ⟨"java/lang/IllegalArgumentException", zw_624, zw_764⟩, rfl⟩, ⟨rfl, 2, rfl, Or.inr ⟨4, by decide, dL_drink_17, dL_drink_19, dL_drink_20⟩⟩, hx⟩) h ?_
  intro r3 M1 h2
  refine z_i2l (v := ((r3).toInt64)) dL_drink_8 rfl ?_
  refine z_last dL_drink_9 zs_18 (by unfold vp_in; decide) ?_
  generalize hhM4 : zupL M1 18 ((0 : Int32)).toNatClampNeg ((r3).toInt64) = M4
  have h5 := h2 M4 hhM4.symm
  refine z_goto (tgt := 21) dL_drink_10 (by decide) ?_
  refine z_iconst (v := (0 : Int32)) dL_drink_21 rfl ?_
  exact z_iret dL_drink_22 rfl rfl (by decide) h5
theorem e_L_heat {E : zEv} {D : Nat} {post : Int32 → zM → Prop} {M : zM} {x2 : Int32}  (h : zCi E jX11_heat D 1 [.ref 19, .int x2] M (fun r3 M1 => ∀ M4 : zM, M4 = zupL M1 18 ((0 : Int32)).toNatClampNeg ((r3).toInt64) → post (0 : Int32) M4) (fun X M9 => (X = "java/lang/IllegalArgumentException" ∧ post (1 : Int32) M9))) : zCWi E jL_heat (D + 1) 1 [.ref 19, .int x2, .ref 18] M post := by
  refine z_methW (by decide) (Nat.le_of_ble_eq_true rfl) ?_
  show Z E jL_heat (D + 1) 1 (zQi post (fun _ _ => False)) 0 0 [.ref 19, .int x2, .ref 18, zU] [] M
  refine z_aload_n dL_heat_0 rfl ?_
  refine z_iconst (v := (0 : Int32)) dL_heat_1 rfl ?_
  refine z_aload_n dL_heat_2 rfl ?_
  refine z_iload_n dL_heat_3 rfl ?_
  refine z_callCi (px1 := (fun X M9 => (X = "java/lang/IllegalArgumentException" ∧ post (1 : Int32) M9))) (As := [.int x2]) (st := [.int (0 : Int32), .ref 18]) dL_heat_4 zi_L_53 rfl rfl zs_19 rfl rfl (Nat.le_of_ble_eq_true rfl) (by decide) (fun X M9 hx => by
    obtain ⟨rfl, hx⟩ := hx
    · exact ⟨12, 1, ⟨[], ⟨0, 9, 12, 13⟩, [], rfl, (fun z hz => nomatch hz), by decide, by decide, ⟨"java/lang/IllegalArgumentException", zw_624, zw_764⟩, rfl⟩, ⟨rfl, 1, rfl, Or.inl ⟨3, by decide, dL_heat_12, dL_heat_13, dL_heat_14⟩⟩, hx⟩) h ?_
  intro r3 M1 h2
  refine z_i2l (v := ((r3).toInt64)) dL_heat_7 rfl ?_
  refine z_last dL_heat_8 zs_18 (by unfold vp_in; decide) ?_
  generalize hhM4 : zupL M1 18 ((0 : Int32)).toNatClampNeg ((r3).toInt64) = M4
  have h5 := h2 M4 hhM4.symm
  refine z_goto (tgt := 15) dL_heat_9 (by decide) ?_
  refine z_iconst (v := (0 : Int32)) dL_heat_15 rfl ?_
  exact z_iret dL_heat_16 rfl rfl (by decide) h5
def w_L_tell_16 (E : zEv) (D : Nat) (post : Int32 → zM → Prop) (px : String → zM → Prop)  (s0 : Int64) (s1 : Int32) (M : zM) : Prop := Z E jL_tell (D + 1) 1 (zQi post px) 16 1 [zU, zU, zU, zU, zU] [.long s0, .int s1, .ref 18] M
theorem e_L_tell {E : zEv} {D : Nat} {post : Int32 → zM → Prop} {M : zM} {x2 : Int32} {x3 : Int32}  (h : zCi E jX11_tell D 1 [.ref 19, .int x2, .int x3] M (fun r3 M1 => ((r3 = 0 → w_L_tell_16 E D post (fun _ _ => False) (0 : Int64) (0 : Int32) M1) ∧ (¬ r3 = 0 → w_L_tell_16 E D post (fun _ _ => False) (1 : Int64) (0 : Int32) M1))) (fun X M9 => (X = "java/lang/IndexOutOfBoundsException" ∧ post (1 : Int32) M9))) : zCWi E jL_tell (D + 1) 1 [.ref 19, .int x2, .int x3, .ref 18] M post := by
  refine z_methW (by decide) (Nat.le_of_ble_eq_true rfl) ?_
  show Z E jL_tell (D + 1) 1 (zQi post (fun _ _ => False)) 0 0 [.ref 19, .int x2, .int x3, .ref 18, zU] [] M
  refine z_aload_n dL_tell_0 rfl ?_
  refine z_iconst (v := (0 : Int32)) dL_tell_1 rfl ?_
  refine z_aload_n dL_tell_2 rfl ?_
  refine z_iload_n dL_tell_3 rfl ?_
  refine z_iload_n dL_tell_4 rfl ?_
  refine z_callCi (px1 := (fun X M9 => (X = "java/lang/IndexOutOfBoundsException" ∧ post (1 : Int32) M9))) (As := [.int x2, .int x3]) (st := [.int (0 : Int32), .ref 18]) dL_tell_5 zi_L_56 rfl rfl zs_19 rfl rfl (Nat.le_of_ble_eq_true rfl) (by decide) (fun X M9 hx => by
    obtain ⟨rfl, hx⟩ := hx
    · exact ⟨20, 1, ⟨[], ⟨0, 17, 20, 24⟩, [], rfl, (fun z hz => nomatch hz), by decide, by decide, ⟨"java/lang/IndexOutOfBoundsException", zw_925, zw_937⟩, rfl⟩, ⟨rfl, 1, rfl, Or.inr ⟨4, by decide, dL_tell_20, dL_tell_22, dL_tell_23⟩⟩, hx⟩) h ?_
  intro r3 M1 h2
  refine z_if_eq (tgt := 15) dL_tell_8 (by decide) (fun g4 => ?_) (fun g4 => ?_)
  · have h5 := h2.1 g4
    refine z_lconst (v := (0 : Int64)) dL_tell_15 rfl ?_
    refine z_weak [false, false, false, false, false] (ls' := [zU, zU, zU, zU, zU]) rfl rfl ?_
    exact h5
  · have h6 := h2.2 g4
    refine z_lconst (v := (1 : Int64)) dL_tell_11 rfl ?_
    refine z_goto (tgt := 16) dL_tell_12 (by decide) ?_
    refine z_weak [false, false, false, false, false] (ls' := [zU, zU, zU, zU, zU]) rfl rfl ?_
    exact h6
theorem t_L_tell_16 {E : zEv} {D : Nat} {post : Int32 → zM → Prop} {px : String → zM → Prop} {M : zM}   {s0 : Int64} {s1 : Int32} (h : vp_in s1 1 ∧ ∀ M3 : zM, M3 = zupL M 18 (s1).toNatClampNeg s0 → post (0 : Int32) M3) : w_L_tell_16 E D post px s0 s1 M := by
  show Z E jL_tell (D + 1) 1 (zQi post px) 16 1 [zU, zU, zU, zU, zU] [.long s0, .int s1, .ref 18] M
  obtain ⟨g2, h1⟩ := h
  refine z_last dL_tell_16 zs_18 g2 ?_
  generalize hhM3 : zupL M 18 (s1).toNatClampNeg s0 = M3
  have h4 := h1 M3 hhM3.symm
  refine z_goto (tgt := 24) dL_tell_17 (by decide) ?_
  refine z_iconst (v := (0 : Int32)) dL_tell_24 rfl ?_
  exact z_iret dL_tell_25 rfl rfl (by decide) h4
theorem e_L_words {E : zEv} {D : Nat} {post : Int32 → zM → Prop} {M : zM} {x2 : Int32} {x3 : Int32}  (h : zCi E jX11_words D 2 [.ref 19, .int x2, .int x3] M (fun r3 M1 => ∀ M4 : zM, M4 = zupL M1 18 ((0 : Int32)).toNatClampNeg ((r3).toInt64) → post (0 : Int32) M4) (fun X M9 => (X = "java/lang/IndexOutOfBoundsException" ∧ post (1 : Int32) M9) ∨ (X = "java/lang/IllegalArgumentException" ∧ post (2 : Int32) M9))) : zCWi E jL_words (D + 1) 2 [.ref 19, .int x2, .int x3, .ref 18] M post := by
  refine z_methW (by decide) (Nat.le_of_ble_eq_true rfl) ?_
  show Z E jL_words (D + 1) 2 (zQi post (fun _ _ => False)) 0 0 [.ref 19, .int x2, .int x3, .ref 18, zU] [] M
  refine z_aload_n dL_words_0 rfl ?_
  refine z_iconst (v := (0 : Int32)) dL_words_1 rfl ?_
  refine z_aload_n dL_words_2 rfl ?_
  refine z_iload_n dL_words_3 rfl ?_
  refine z_iload_n dL_words_4 rfl ?_
  refine z_callCi (px1 := (fun X M9 => (X = "java/lang/IndexOutOfBoundsException" ∧ post (1 : Int32) M9) ∨ (X = "java/lang/IllegalArgumentException" ∧ post (2 : Int32) M9))) (As := [.int x2, .int x3]) (st := [.int (0 : Int32), .ref 18]) dL_words_5 zi_L_60 rfl rfl zs_19 rfl rfl (Nat.le_of_ble_eq_true rfl) (by decide) (fun X M9 hx => by
    rcases hx with ⟨rfl, hx⟩ | ⟨rfl, hx⟩
    · exact ⟨13, 1, ⟨[], ⟨0, 10, 13, 24⟩, [⟨0, 10, 17, 13⟩], rfl, (fun z hz => nomatch hz), by decide, by decide, ⟨"java/lang/IndexOutOfBoundsException", zw_925, zw_937⟩, rfl⟩, ⟨rfl, 1, rfl, Or.inr ⟨4, by decide, dL_words_13, dL_words_15, dL_words_16⟩⟩, hx⟩
    · exact ⟨17, 2, ⟨[⟨0, 10, 13, 24⟩], ⟨0, 10, 17, 13⟩, [], rfl, (fun z hz => by rw [List.mem_singleton.mp hz]; exact ⟨by decide, by decide, "java/lang/IndexOutOfBoundsException", zw_925, fun U h => h.2.2⟩), by decide, by decide, ⟨"java/lang/IllegalArgumentException", zw_624, zw_764⟩, rfl⟩, ⟨rfl, 2, rfl, Or.inr ⟨4, by decide, dL_words_17, dL_words_19, dL_words_20⟩⟩, hx⟩) h ?_
  intro r3 M1 h2
  refine z_i2l (v := ((r3).toInt64)) dL_words_8 rfl ?_
  refine z_last dL_words_9 zs_18 (by unfold vp_in; decide) ?_
  generalize hhM4 : zupL M1 18 ((0 : Int32)).toNatClampNeg ((r3).toInt64) = M4
  have h5 := h2 M4 hhM4.symm
  refine z_goto (tgt := 21) dL_words_10 (by decide) ?_
  refine z_iconst (v := (0 : Int32)) dL_words_21 rfl ?_
  exact z_iret dL_words_22 rfl rfl (by decide) h5
theorem e_L_powder {E : zEv} {D : Nat} {post : Int32 → zM → Prop} {M : zM} {x2 : Int32}  (h : zCi E jX11_powder D 1 [.ref 19, .int x2] M (fun r3 M1 => ∀ M4 : zM, M4 = zupL M1 18 ((0 : Int32)).toNatClampNeg ((r3).toInt64) → post (0 : Int32) M4) (fun X M9 => (X = "java/lang/IndexOutOfBoundsException" ∧ post (1 : Int32) M9))) : zCWi E jL_powder (D + 1) 1 [.ref 19, .int x2, .ref 18] M post := by
  refine z_methW (by decide) (Nat.le_of_ble_eq_true rfl) ?_
  show Z E jL_powder (D + 1) 1 (zQi post (fun _ _ => False)) 0 0 [.ref 19, .int x2, .ref 18, zU] [] M
  refine z_aload_n dL_powder_0 rfl ?_
  refine z_iconst (v := (0 : Int32)) dL_powder_1 rfl ?_
  refine z_aload_n dL_powder_2 rfl ?_
  refine z_iload_n dL_powder_3 rfl ?_
  refine z_callCi (px1 := (fun X M9 => (X = "java/lang/IndexOutOfBoundsException" ∧ post (1 : Int32) M9))) (As := [.int x2]) (st := [.int (0 : Int32), .ref 18]) dL_powder_4 zi_L_63 rfl rfl zs_19 rfl rfl (Nat.le_of_ble_eq_true rfl) (by decide) (fun X M9 hx => by
    obtain ⟨rfl, hx⟩ := hx
    · exact ⟨12, 1, ⟨[], ⟨0, 9, 12, 24⟩, [], rfl, (fun z hz => nomatch hz), by decide, by decide, ⟨"java/lang/IndexOutOfBoundsException", zw_925, zw_937⟩, rfl⟩, ⟨rfl, 1, rfl, Or.inl ⟨3, by decide, dL_powder_12, dL_powder_13, dL_powder_14⟩⟩, hx⟩) h ?_
  intro r3 M1 h2
  refine z_i2l (v := ((r3).toInt64)) dL_powder_7 rfl ?_
  refine z_last dL_powder_8 zs_18 (by unfold vp_in; decide) ?_
  generalize hhM4 : zupL M1 18 ((0 : Int32)).toNatClampNeg ((r3).toInt64) = M4
  have h5 := h2 M4 hhM4.symm
  refine z_goto (tgt := 15) dL_powder_9 (by decide) ?_
  refine z_iconst (v := (0 : Int32)) dL_powder_15 rfl ?_
  exact z_iret dL_powder_16 rfl rfl (by decide) h5
theorem e_L_rises {E : zEv} {D : Nat} {post : Int32 → zM → Prop} {M : zM} {x2 : Int32} {x3 : Int32}  (h : zCi E jX11_rises D 2 [.ref 19, .int x2, .int x3] M (fun r3 M1 => ∀ M4 : zM, M4 = zupL M1 18 ((0 : Int32)).toNatClampNeg ((r3).toInt64) → post (0 : Int32) M4) (fun X M9 => (X = "java/lang/IndexOutOfBoundsException" ∧ post (1 : Int32) M9))) : zCWi E jL_rises (D + 1) 2 [.ref 19, .int x2, .int x3, .ref 18] M post := by
  refine z_methW (by decide) (Nat.le_of_ble_eq_true rfl) ?_
  show Z E jL_rises (D + 1) 2 (zQi post (fun _ _ => False)) 0 0 [.ref 19, .int x2, .int x3, .ref 18, zU] [] M
  refine z_aload_n dL_rises_0 rfl ?_
  refine z_iconst (v := (0 : Int32)) dL_rises_1 rfl ?_
  refine z_aload_n dL_rises_2 rfl ?_
  refine z_iload_n dL_rises_3 rfl ?_
  refine z_iload_n dL_rises_4 rfl ?_
  refine z_callCi (px1 := (fun X M9 => (X = "java/lang/IndexOutOfBoundsException" ∧ post (1 : Int32) M9))) (As := [.int x2, .int x3]) (st := [.int (0 : Int32), .ref 18]) dL_rises_5 zi_L_66 rfl rfl zs_19 rfl rfl (Nat.le_of_ble_eq_true rfl) (by decide) (fun X M9 hx => by
    obtain ⟨rfl, hx⟩ := hx
    · exact ⟨13, 1, ⟨[], ⟨0, 10, 13, 24⟩, [], rfl, (fun z hz => nomatch hz), by decide, by decide, ⟨"java/lang/IndexOutOfBoundsException", zw_925, zw_937⟩, rfl⟩, ⟨rfl, 1, rfl, Or.inr ⟨4, by decide, dL_rises_13, dL_rises_15, dL_rises_16⟩⟩, hx⟩) h ?_
  intro r3 M1 h2
  refine z_i2l (v := ((r3).toInt64)) dL_rises_8 rfl ?_
  refine z_last dL_rises_9 zs_18 (by unfold vp_in; decide) ?_
  generalize hhM4 : zupL M1 18 ((0 : Int32)).toNatClampNeg ((r3).toInt64) = M4
  have h5 := h2 M4 hhM4.symm
  refine z_goto (tgt := 17) dL_rises_10 (by decide) ?_
  refine z_iconst (v := (0 : Int32)) dL_rises_17 rfl ?_
  exact z_iret dL_rises_18 rfl rfl (by decide) h5
theorem e_L_seen {E : zEv} {D : Nat} {post : Int32 → zM → Prop} {M : zM} {x2 : Int32} {x3 : Int32}  (h : zCi E jX11_seen D 2 [.ref 19, .int x2, .int x3] M (fun r3 M1 => ∀ M4 : zM, M4 = zupL M1 18 ((0 : Int32)).toNatClampNeg ((r3).toInt64) → post (0 : Int32) M4) (fun X M9 => (X = "java/lang/IndexOutOfBoundsException" ∧ post (1 : Int32) M9))) : zCWi E jL_seen (D + 1) 2 [.ref 19, .int x2, .int x3, .ref 18] M post := by
  refine z_methW (by decide) (Nat.le_of_ble_eq_true rfl) ?_
  show Z E jL_seen (D + 1) 2 (zQi post (fun _ _ => False)) 0 0 [.ref 19, .int x2, .int x3, .ref 18, zU] [] M
  refine z_aload_n dL_seen_0 rfl ?_
  refine z_iconst (v := (0 : Int32)) dL_seen_1 rfl ?_
  refine z_aload_n dL_seen_2 rfl ?_
  refine z_iload_n dL_seen_3 rfl ?_
  refine z_iload_n dL_seen_4 rfl ?_
  refine z_callCi (px1 := (fun X M9 => (X = "java/lang/IndexOutOfBoundsException" ∧ post (1 : Int32) M9))) (As := [.int x2, .int x3]) (st := [.int (0 : Int32), .ref 18]) dL_seen_5 zi_L_69 rfl rfl zs_19 rfl rfl (Nat.le_of_ble_eq_true rfl) (by decide) (fun X M9 hx => by
    obtain ⟨rfl, hx⟩ := hx
    · exact ⟨13, 1, ⟨[], ⟨0, 10, 13, 24⟩, [], rfl, (fun z hz => nomatch hz), by decide, by decide, ⟨"java/lang/IndexOutOfBoundsException", zw_925, zw_937⟩, rfl⟩, ⟨rfl, 1, rfl, Or.inr ⟨4, by decide, dL_seen_13, dL_seen_15, dL_seen_16⟩⟩, hx⟩) h ?_
  intro r3 M1 h2
  refine z_i2l (v := ((r3).toInt64)) dL_seen_8 rfl ?_
  refine z_last dL_seen_9 zs_18 (by unfold vp_in; decide) ?_
  generalize hhM4 : zupL M1 18 ((0 : Int32)).toNatClampNeg ((r3).toInt64) = M4
  have h5 := h2 M4 hhM4.symm
  refine z_goto (tgt := 17) dL_seen_10 (by decide) ?_
  refine z_iconst (v := (0 : Int32)) dL_seen_17 rfl ?_
  exact z_iret dL_seen_18 rfl rfl (by decide) h5
theorem e_L_gives {E : zEv} {D : Nat} {post : Int32 → zM → Prop} {M : zM} {x2 : Int32}  (h : zCi E jX11_gives D 1 [.ref 19, .int x2] M (fun r3 M1 => ∀ M4 : zM, M4 = zupL M1 18 ((0 : Int32)).toNatClampNeg ((r3).toInt64) → post (0 : Int32) M4) (fun X M9 => (X = "java/lang/IndexOutOfBoundsException" ∧ post (1 : Int32) M9))) : zCWi E jL_gives (D + 1) 1 [.ref 19, .int x2, .ref 18] M post := by
  refine z_methW (by decide) (Nat.le_of_ble_eq_true rfl) ?_
  show Z E jL_gives (D + 1) 1 (zQi post (fun _ _ => False)) 0 0 [.ref 19, .int x2, .ref 18, zU] [] M
  refine z_aload_n dL_gives_0 rfl ?_
  refine z_iconst (v := (0 : Int32)) dL_gives_1 rfl ?_
  refine z_aload_n dL_gives_2 rfl ?_
  refine z_iload_n dL_gives_3 rfl ?_
  refine z_callCi (px1 := (fun X M9 => (X = "java/lang/IndexOutOfBoundsException" ∧ post (1 : Int32) M9))) (As := [.int x2]) (st := [.int (0 : Int32), .ref 18]) dL_gives_4 zi_L_72 rfl rfl zs_19 rfl rfl (Nat.le_of_ble_eq_true rfl) (by decide) (fun X M9 hx => by
    obtain ⟨rfl, hx⟩ := hx
    · exact ⟨12, 1, ⟨[], ⟨0, 9, 12, 24⟩, [], rfl, (fun z hz => nomatch hz), by decide, by decide, ⟨"java/lang/IndexOutOfBoundsException", zw_925, zw_937⟩, rfl⟩, ⟨rfl, 1, rfl, Or.inl ⟨3, by decide, dL_gives_12, dL_gives_13, dL_gives_14⟩⟩, hx⟩) h ?_
  intro r3 M1 h2
  refine z_i2l (v := ((r3).toInt64)) dL_gives_7 rfl ?_
  refine z_last dL_gives_8 zs_18 (by unfold vp_in; decide) ?_
  generalize hhM4 : zupL M1 18 ((0 : Int32)).toNatClampNeg ((r3).toInt64) = M4
  have h5 := h2 M4 hhM4.symm
  refine z_goto (tgt := 15) dL_gives_9 (by decide) ?_
  refine z_iconst (v := (0 : Int32)) dL_gives_15 rfl ?_
  exact z_iret dL_gives_16 rfl rfl (by decide) h5
theorem e_L_writes {E : zEv} {D : Nat} {post : Int32 → zM → Prop} {M : zM} {x2 : Int32} {x3 : Int32}  (h : zCi E jX11_writes D 2 [.ref 19, .int x2, .int x3] M (fun r3 M1 => ∀ M4 : zM, M4 = zupL M1 18 ((0 : Int32)).toNatClampNeg ((r3).toInt64) → post (0 : Int32) M4) (fun X M9 => (X = "java/lang/IndexOutOfBoundsException" ∧ post (1 : Int32) M9))) : zCWi E jL_writes (D + 1) 2 [.ref 19, .int x2, .int x3, .ref 18] M post := by
  refine z_methW (by decide) (Nat.le_of_ble_eq_true rfl) ?_
  show Z E jL_writes (D + 1) 2 (zQi post (fun _ _ => False)) 0 0 [.ref 19, .int x2, .int x3, .ref 18, zU] [] M
  refine z_aload_n dL_writes_0 rfl ?_
  refine z_iconst (v := (0 : Int32)) dL_writes_1 rfl ?_
  refine z_aload_n dL_writes_2 rfl ?_
  refine z_iload_n dL_writes_3 rfl ?_
  refine z_iload_n dL_writes_4 rfl ?_
  refine z_callCi (px1 := (fun X M9 => (X = "java/lang/IndexOutOfBoundsException" ∧ post (1 : Int32) M9))) (As := [.int x2, .int x3]) (st := [.int (0 : Int32), .ref 18]) dL_writes_5 zi_L_75 rfl rfl zs_19 rfl rfl (Nat.le_of_ble_eq_true rfl) (by decide) (fun X M9 hx => by
    obtain ⟨rfl, hx⟩ := hx
    · exact ⟨13, 1, ⟨[], ⟨0, 10, 13, 24⟩, [], rfl, (fun z hz => nomatch hz), by decide, by decide, ⟨"java/lang/IndexOutOfBoundsException", zw_925, zw_937⟩, rfl⟩, ⟨rfl, 1, rfl, Or.inr ⟨4, by decide, dL_writes_13, dL_writes_15, dL_writes_16⟩⟩, hx⟩) h ?_
  intro r3 M1 h2
  refine z_i2l (v := ((r3).toInt64)) dL_writes_8 rfl ?_
  refine z_last dL_writes_9 zs_18 (by unfold vp_in; decide) ?_
  generalize hhM4 : zupL M1 18 ((0 : Int32)).toNatClampNeg ((r3).toInt64) = M4
  have h5 := h2 M4 hhM4.symm
  refine z_goto (tgt := 17) dL_writes_10 (by decide) ?_
  refine z_iconst (v := (0 : Int32)) dL_writes_17 rfl ?_
  exact z_iret dL_writes_18 rfl rfl (by decide) h5
theorem e_L_fits {E : zEv} {D : Nat} {post : Int32 → zM → Prop} {M : zM}   (h : zCi E jX11_fits D 1 [.ref 19] M (fun r3 M1 => ∀ M4 : zM, M4 = zupL M1 18 ((0 : Int32)).toNatClampNeg ((r3).toInt64) → post (0 : Int32) M4) (fun X M9 => (X = "java/lang/IllegalArgumentException" ∧ post (1 : Int32) M9))) : zCWi E jL_fits (D + 1) 1 [.ref 19, .ref 18] M post := by
  refine z_methW (by decide) (Nat.le_of_ble_eq_true rfl) ?_
  show Z E jL_fits (D + 1) 1 (zQi post (fun _ _ => False)) 0 0 [.ref 19, .ref 18, zU] [] M
  refine z_aload_n dL_fits_0 rfl ?_
  refine z_iconst (v := (0 : Int32)) dL_fits_1 rfl ?_
  refine z_aload_n dL_fits_2 rfl ?_
  refine z_callCi (px1 := (fun X M9 => (X = "java/lang/IllegalArgumentException" ∧ post (1 : Int32) M9))) (As := []) (st := [.int (0 : Int32), .ref 18]) dL_fits_3 zi_L_78 rfl rfl zs_19 rfl rfl (Nat.le_of_ble_eq_true rfl) (by decide) (fun X M9 hx => by
    obtain ⟨rfl, hx⟩ := hx
    · exact ⟨11, 1, ⟨[], ⟨0, 8, 11, 13⟩, [], rfl, (fun z hz => nomatch hz), by decide, by decide, ⟨"java/lang/IllegalArgumentException", zw_624, zw_764⟩, rfl⟩, ⟨rfl, 1, rfl, Or.inl ⟨2, by decide, dL_fits_11, dL_fits_12, dL_fits_13⟩⟩, hx⟩) h ?_
  intro r3 M1 h2
  refine z_i2l (v := ((r3).toInt64)) dL_fits_6 rfl ?_
  refine z_last dL_fits_7 zs_18 (by unfold vp_in; decide) ?_
  generalize hhM4 : zupL M1 18 ((0 : Int32)).toNatClampNeg ((r3).toInt64) = M4
  have h5 := h2 M4 hhM4.symm
  refine z_goto (tgt := 14) dL_fits_8 (by decide) ?_
  refine z_iconst (v := (0 : Int32)) dL_fits_14 rfl ?_
  exact z_iret dL_fits_15 rfl rfl (by decide) h5
theorem e_L_sure {E : zEv} {D : Nat} {post : Int32 → zM → Prop} {M : zM}   (h : zCi E jX11_sure D 1 [.ref 19] M (fun r3 M1 => ∀ M4 : zM, M4 = zupL M1 18 ((0 : Int32)).toNatClampNeg ((r3).toInt64) → post (0 : Int32) M4) (fun X M9 => (X = "java/lang/IllegalArgumentException" ∧ post (1 : Int32) M9))) : zCWi E jL_sure (D + 1) 1 [.ref 19, .ref 18] M post := by
  refine z_methW (by decide) (Nat.le_of_ble_eq_true rfl) ?_
  show Z E jL_sure (D + 1) 1 (zQi post (fun _ _ => False)) 0 0 [.ref 19, .ref 18, zU] [] M
  refine z_aload_n dL_sure_0 rfl ?_
  refine z_iconst (v := (0 : Int32)) dL_sure_1 rfl ?_
  refine z_aload_n dL_sure_2 rfl ?_
  refine z_callCi (px1 := (fun X M9 => (X = "java/lang/IllegalArgumentException" ∧ post (1 : Int32) M9))) (As := []) (st := [.int (0 : Int32), .ref 18]) dL_sure_3 zi_L_81 rfl rfl zs_19 rfl rfl (Nat.le_of_ble_eq_true rfl) (by decide) (fun X M9 hx => by
    obtain ⟨rfl, hx⟩ := hx
    · exact ⟨11, 1, ⟨[], ⟨0, 8, 11, 13⟩, [], rfl, (fun z hz => nomatch hz), by decide, by decide, ⟨"java/lang/IllegalArgumentException", zw_624, zw_764⟩, rfl⟩, ⟨rfl, 1, rfl, Or.inl ⟨2, by decide, dL_sure_11, dL_sure_12, dL_sure_13⟩⟩, hx⟩) h ?_
  intro r3 M1 h2
  refine z_i2l (v := ((r3).toInt64)) dL_sure_6 rfl ?_
  refine z_last dL_sure_7 zs_18 (by unfold vp_in; decide) ?_
  generalize hhM4 : zupL M1 18 ((0 : Int32)).toNatClampNeg ((r3).toInt64) = M4
  have h5 := h2 M4 hhM4.symm
  refine z_goto (tgt := 14) dL_sure_8 (by decide) ?_
  refine z_iconst (v := (0 : Int32)) dL_sure_14 rfl ?_
  exact z_iret dL_sure_15 rfl rfl (by decide) h5
theorem e_L_never {E : zEv} {D : Nat} {post : Int32 → zM → Prop} {M : zM}   (h : zCi E jX11_never D 1 [.ref 19] M (fun r3 M1 => ∀ M4 : zM, M4 = zupL M1 18 ((0 : Int32)).toNatClampNeg ((r3).toInt64) → post (0 : Int32) M4) (fun X M9 => (X = "java/lang/IllegalArgumentException" ∧ post (1 : Int32) M9))) : zCWi E jL_never (D + 1) 1 [.ref 19, .ref 18] M post := by
  refine z_methW (by decide) (Nat.le_of_ble_eq_true rfl) ?_
  show Z E jL_never (D + 1) 1 (zQi post (fun _ _ => False)) 0 0 [.ref 19, .ref 18, zU] [] M
  refine z_aload_n dL_never_0 rfl ?_
  refine z_iconst (v := (0 : Int32)) dL_never_1 rfl ?_
  refine z_aload_n dL_never_2 rfl ?_
  refine z_callCi (px1 := (fun X M9 => (X = "java/lang/IllegalArgumentException" ∧ post (1 : Int32) M9))) (As := []) (st := [.int (0 : Int32), .ref 18]) dL_never_3 zi_L_84 rfl rfl zs_19 rfl rfl (Nat.le_of_ble_eq_true rfl) (by decide) (fun X M9 hx => by
    obtain ⟨rfl, hx⟩ := hx
    · exact ⟨11, 1, ⟨[], ⟨0, 8, 11, 13⟩, [], rfl, (fun z hz => nomatch hz), by decide, by decide, ⟨"java/lang/IllegalArgumentException", zw_624, zw_764⟩, rfl⟩, ⟨rfl, 1, rfl, Or.inl ⟨2, by decide, dL_never_11, dL_never_12, dL_never_13⟩⟩, hx⟩) h ?_
  intro r3 M1 h2
  refine z_i2l (v := ((r3).toInt64)) dL_never_6 rfl ?_
  refine z_last dL_never_7 zs_18 (by unfold vp_in; decide) ?_
  generalize hhM4 : zupL M1 18 ((0 : Int32)).toNatClampNeg ((r3).toInt64) = M4
  have h5 := h2 M4 hhM4.symm
  refine z_goto (tgt := 14) dL_never_8 (by decide) ?_
  refine z_iconst (v := (0 : Int32)) dL_never_14 rfl ?_
  exact z_iret dL_never_15 rfl rfl (by decide) h5
theorem e_L_next {E : zEv} {D : Nat} {post : Int32 → zM → Prop} {M : zM}   (h : zCi E jX11_next D 1 [.ref 19] M (fun r3 M1 => ∀ M4 : zM, M4 = zupL M1 18 ((0 : Int32)).toNatClampNeg ((r3).toInt64) → post (0 : Int32) M4) (fun X M9 => (X = "java/lang/IllegalArgumentException" ∧ post (1 : Int32) M9))) : zCWi E jL_next (D + 1) 1 [.ref 19, .ref 18] M post := by
  refine z_methW (by decide) (Nat.le_of_ble_eq_true rfl) ?_
  show Z E jL_next (D + 1) 1 (zQi post (fun _ _ => False)) 0 0 [.ref 19, .ref 18, zU] [] M
  refine z_aload_n dL_next_0 rfl ?_
  refine z_iconst (v := (0 : Int32)) dL_next_1 rfl ?_
  refine z_aload_n dL_next_2 rfl ?_
  refine z_callCi (px1 := (fun X M9 => (X = "java/lang/IllegalArgumentException" ∧ post (1 : Int32) M9))) (As := []) (st := [.int (0 : Int32), .ref 18]) dL_next_3 zi_L_87 rfl rfl zs_19 rfl rfl (Nat.le_of_ble_eq_true rfl) (by decide) (fun X M9 hx => by
    obtain ⟨rfl, hx⟩ := hx
    · exact ⟨11, 1, ⟨[], ⟨0, 8, 11, 13⟩, [], rfl, (fun z hz => nomatch hz), by decide, by decide, ⟨"java/lang/IllegalArgumentException", zw_624, zw_764⟩, rfl⟩, ⟨rfl, 1, rfl, Or.inl ⟨2, by decide, dL_next_11, dL_next_12, dL_next_13⟩⟩, hx⟩) h ?_
  intro r3 M1 h2
  refine z_i2l (v := ((r3).toInt64)) dL_next_6 rfl ?_
  refine z_last dL_next_7 zs_18 (by unfold vp_in; decide) ?_
  generalize hhM4 : zupL M1 18 ((0 : Int32)).toNatClampNeg ((r3).toInt64) = M4
  have h5 := h2 M4 hhM4.symm
  refine z_goto (tgt := 14) dL_next_8 (by decide) ?_
  refine z_iconst (v := (0 : Int32)) dL_next_14 rfl ?_
  exact z_iret dL_next_15 rfl rfl (by decide) h5
theorem e_L_tells {E : zEv} {D : Nat} {post : Int32 → zM → Prop} {M : zM} {x2 : Int32}  (h : zCi E jX11_tells D 1 [.ref 19, .int x2] M (fun r3 M1 => ∀ M4 : zM, M4 = zupL M1 18 ((0 : Int32)).toNatClampNeg ((r3).toInt64) → post (0 : Int32) M4) (fun X M9 => (X = "java/lang/IndexOutOfBoundsException" ∧ post (1 : Int32) M9))) : zCWi E jL_tells (D + 1) 1 [.ref 19, .int x2, .ref 18] M post := by
  refine z_methW (by decide) (Nat.le_of_ble_eq_true rfl) ?_
  show Z E jL_tells (D + 1) 1 (zQi post (fun _ _ => False)) 0 0 [.ref 19, .int x2, .ref 18, zU] [] M
  refine z_aload_n dL_tells_0 rfl ?_
  refine z_iconst (v := (0 : Int32)) dL_tells_1 rfl ?_
  refine z_aload_n dL_tells_2 rfl ?_
  refine z_iload_n dL_tells_3 rfl ?_
  refine z_callCi (px1 := (fun X M9 => (X = "java/lang/IndexOutOfBoundsException" ∧ post (1 : Int32) M9))) (As := [.int x2]) (st := [.int (0 : Int32), .ref 18]) dL_tells_4 zi_L_90 rfl rfl zs_19 rfl rfl (Nat.le_of_ble_eq_true rfl) (by decide) (fun X M9 hx => by
    obtain ⟨rfl, hx⟩ := hx
    · exact ⟨12, 1, ⟨[], ⟨0, 9, 12, 24⟩, [], rfl, (fun z hz => nomatch hz), by decide, by decide, ⟨"java/lang/IndexOutOfBoundsException", zw_925, zw_937⟩, rfl⟩, ⟨rfl, 1, rfl, Or.inl ⟨3, by decide, dL_tells_12, dL_tells_13, dL_tells_14⟩⟩, hx⟩) h ?_
  intro r3 M1 h2
  refine z_i2l (v := ((r3).toInt64)) dL_tells_7 rfl ?_
  refine z_last dL_tells_8 zs_18 (by unfold vp_in; decide) ?_
  generalize hhM4 : zupL M1 18 ((0 : Int32)).toNatClampNeg ((r3).toInt64) = M4
  have h5 := h2 M4 hhM4.symm
  refine z_goto (tgt := 15) dL_tells_9 (by decide) ?_
  refine z_iconst (v := (0 : Int32)) dL_tells_15 rfl ?_
  exact z_iret dL_tells_16 rfl rfl (by decide) h5
theorem e_L_shared {E : zEv} {D : Nat} {post : Int32 → zM → Prop} {M : zM} {x2 : Int32}  (h : zCi E jX11_shared D 1 [.ref 19, .int x2] M (fun r3 M1 => ∀ M4 : zM, M4 = zupL M1 18 ((0 : Int32)).toNatClampNeg ((r3).toInt64) → post (0 : Int32) M4) (fun X M9 => (X = "java/lang/IndexOutOfBoundsException" ∧ post (1 : Int32) M9))) : zCWi E jL_shared (D + 1) 1 [.ref 19, .int x2, .ref 18] M post := by
  refine z_methW (by decide) (Nat.le_of_ble_eq_true rfl) ?_
  show Z E jL_shared (D + 1) 1 (zQi post (fun _ _ => False)) 0 0 [.ref 19, .int x2, .ref 18, zU] [] M
  refine z_aload_n dL_shared_0 rfl ?_
  refine z_iconst (v := (0 : Int32)) dL_shared_1 rfl ?_
  refine z_aload_n dL_shared_2 rfl ?_
  refine z_iload_n dL_shared_3 rfl ?_
  refine z_callCi (px1 := (fun X M9 => (X = "java/lang/IndexOutOfBoundsException" ∧ post (1 : Int32) M9))) (As := [.int x2]) (st := [.int (0 : Int32), .ref 18]) dL_shared_4 zi_L_93 rfl rfl zs_19 rfl rfl (Nat.le_of_ble_eq_true rfl) (by decide) (fun X M9 hx => by
    obtain ⟨rfl, hx⟩ := hx
    · exact ⟨12, 1, ⟨[], ⟨0, 9, 12, 24⟩, [], rfl, (fun z hz => nomatch hz), by decide, by decide, ⟨"java/lang/IndexOutOfBoundsException", zw_925, zw_937⟩, rfl⟩, ⟨rfl, 1, rfl, Or.inl ⟨3, by decide, dL_shared_12, dL_shared_13, dL_shared_14⟩⟩, hx⟩) h ?_
  intro r3 M1 h2
  refine z_i2l (v := ((r3).toInt64)) dL_shared_7 rfl ?_
  refine z_last dL_shared_8 zs_18 (by unfold vp_in; decide) ?_
  generalize hhM4 : zupL M1 18 ((0 : Int32)).toNatClampNeg ((r3).toInt64) = M4
  have h5 := h2 M4 hhM4.symm
  refine z_goto (tgt := 15) dL_shared_9 (by decide) ?_
  refine z_iconst (v := (0 : Int32)) dL_shared_15 rfl ?_
  exact z_iret dL_shared_16 rfl rfl (by decide) h5
theorem e_L_apart {E : zEv} {D : Nat} {post : Int32 → zM → Prop} {M : zM} {x2 : Int32}  (h : zCi E jX11_apart D 1 [.ref 19, .int x2] M (fun r3 M1 => ∀ M4 : zM, M4 = zupL M1 18 ((0 : Int32)).toNatClampNeg ((r3).toInt64) → post (0 : Int32) M4) (fun X M9 => (X = "java/lang/IndexOutOfBoundsException" ∧ post (1 : Int32) M9))) : zCWi E jL_apart (D + 1) 1 [.ref 19, .int x2, .ref 18] M post := by
  refine z_methW (by decide) (Nat.le_of_ble_eq_true rfl) ?_
  show Z E jL_apart (D + 1) 1 (zQi post (fun _ _ => False)) 0 0 [.ref 19, .int x2, .ref 18, zU] [] M
  refine z_aload_n dL_apart_0 rfl ?_
  refine z_iconst (v := (0 : Int32)) dL_apart_1 rfl ?_
  refine z_aload_n dL_apart_2 rfl ?_
  refine z_iload_n dL_apart_3 rfl ?_
  refine z_callCi (px1 := (fun X M9 => (X = "java/lang/IndexOutOfBoundsException" ∧ post (1 : Int32) M9))) (As := [.int x2]) (st := [.int (0 : Int32), .ref 18]) dL_apart_4 zi_L_96 rfl rfl zs_19 rfl rfl (Nat.le_of_ble_eq_true rfl) (by decide) (fun X M9 hx => by
    obtain ⟨rfl, hx⟩ := hx
    · exact ⟨12, 1, ⟨[], ⟨0, 9, 12, 24⟩, [], rfl, (fun z hz => nomatch hz), by decide, by decide, ⟨"java/lang/IndexOutOfBoundsException", zw_925, zw_937⟩, rfl⟩, ⟨rfl, 1, rfl, Or.inl ⟨3, by decide, dL_apart_12, dL_apart_13, dL_apart_14⟩⟩, hx⟩) h ?_
  intro r3 M1 h2
  refine z_i2l (v := ((r3).toInt64)) dL_apart_7 rfl ?_
  refine z_last dL_apart_8 zs_18 (by unfold vp_in; decide) ?_
  generalize hhM4 : zupL M1 18 ((0 : Int32)).toNatClampNeg ((r3).toInt64) = M4
  have h5 := h2 M4 hhM4.symm
  refine z_goto (tgt := 15) dL_apart_9 (by decide) ?_
  refine z_iconst (v := (0 : Int32)) dL_apart_15 rfl ?_
  exact z_iret dL_apart_16 rfl rfl (by decide) h5
theorem e_L_row {E : zEv} {D : Nat} {post : Int32 → zM → Prop} {M : zM} {x2 : Int32} {x3 : Int32}  (h : zCi E jX11_row D 2 [.ref 19, .int x2, .int x3] M (fun r3 M1 => ∀ M4 : zM, M4 = zupL M1 18 ((0 : Int32)).toNatClampNeg ((r3).toInt64) → post (0 : Int32) M4) (fun X M9 => (X = "java/lang/IndexOutOfBoundsException" ∧ post (1 : Int32) M9))) : zCWi E jL_row (D + 1) 2 [.ref 19, .int x2, .int x3, .ref 18] M post := by
  refine z_methW (by decide) (Nat.le_of_ble_eq_true rfl) ?_
  show Z E jL_row (D + 1) 2 (zQi post (fun _ _ => False)) 0 0 [.ref 19, .int x2, .int x3, .ref 18, zU] [] M
  refine z_aload_n dL_row_0 rfl ?_
  refine z_iconst (v := (0 : Int32)) dL_row_1 rfl ?_
  refine z_aload_n dL_row_2 rfl ?_
  refine z_iload_n dL_row_3 rfl ?_
  refine z_iload_n dL_row_4 rfl ?_
  refine z_callCi (px1 := (fun X M9 => (X = "java/lang/IndexOutOfBoundsException" ∧ post (1 : Int32) M9))) (As := [.int x2, .int x3]) (st := [.int (0 : Int32), .ref 18]) dL_row_5 zi_L_99 rfl rfl zs_19 rfl rfl (Nat.le_of_ble_eq_true rfl) (by decide) (fun X M9 hx => by
    obtain ⟨rfl, hx⟩ := hx
    · exact ⟨13, 1, ⟨[], ⟨0, 10, 13, 24⟩, [], rfl, (fun z hz => nomatch hz), by decide, by decide, ⟨"java/lang/IndexOutOfBoundsException", zw_925, zw_937⟩, rfl⟩, ⟨rfl, 1, rfl, Or.inr ⟨4, by decide, dL_row_13, dL_row_15, dL_row_16⟩⟩, hx⟩) h ?_
  intro r3 M1 h2
  refine z_i2l (v := ((r3).toInt64)) dL_row_8 rfl ?_
  refine z_last dL_row_9 zs_18 (by unfold vp_in; decide) ?_
  generalize hhM4 : zupL M1 18 ((0 : Int32)).toNatClampNeg ((r3).toInt64) = M4
  have h5 := h2 M4 hhM4.symm
  refine z_goto (tgt := 17) dL_row_10 (by decide) ?_
  refine z_iconst (v := (0 : Int32)) dL_row_17 rfl ?_
  exact z_iret dL_row_18 rfl rfl (by decide) h5
theorem e_L_wrong {E : zEv} {D : Nat} {post : Int32 → zM → Prop} {M : zM}   (h : zCi E jX11_wrong D 1 [.ref 19] M (fun r3 M1 => ∀ M4 : zM, M4 = zupL M1 18 ((0 : Int32)).toNatClampNeg ((r3).toInt64) → post (0 : Int32) M4) (fun X M9 => (X = "java/lang/IllegalArgumentException" ∧ post (1 : Int32) M9))) : zCWi E jL_wrong (D + 1) 1 [.ref 19, .ref 18] M post := by
  refine z_methW (by decide) (Nat.le_of_ble_eq_true rfl) ?_
  show Z E jL_wrong (D + 1) 1 (zQi post (fun _ _ => False)) 0 0 [.ref 19, .ref 18, zU] [] M
  refine z_aload_n dL_wrong_0 rfl ?_
  refine z_iconst (v := (0 : Int32)) dL_wrong_1 rfl ?_
  refine z_aload_n dL_wrong_2 rfl ?_
  refine z_callCi (px1 := (fun X M9 => (X = "java/lang/IllegalArgumentException" ∧ post (1 : Int32) M9))) (As := []) (st := [.int (0 : Int32), .ref 18]) dL_wrong_3 zi_L_102 rfl rfl zs_19 rfl rfl (Nat.le_of_ble_eq_true rfl) (by decide) (fun X M9 hx => by
    obtain ⟨rfl, hx⟩ := hx
    · exact ⟨11, 1, ⟨[], ⟨0, 8, 11, 13⟩, [], rfl, (fun z hz => nomatch hz), by decide, by decide, ⟨"java/lang/IllegalArgumentException", zw_624, zw_764⟩, rfl⟩, ⟨rfl, 1, rfl, Or.inl ⟨2, by decide, dL_wrong_11, dL_wrong_12, dL_wrong_13⟩⟩, hx⟩) h ?_
  intro r3 M1 h2
  refine z_i2l (v := ((r3).toInt64)) dL_wrong_6 rfl ?_
  refine z_last dL_wrong_7 zs_18 (by unfold vp_in; decide) ?_
  generalize hhM4 : zupL M1 18 ((0 : Int32)).toNatClampNeg ((r3).toInt64) = M4
  have h5 := h2 M4 hhM4.symm
  refine z_goto (tgt := 14) dL_wrong_8 (by decide) ?_
  refine z_iconst (v := (0 : Int32)) dL_wrong_14 rfl ?_
  exact z_iret dL_wrong_15 rfl rfl (by decide) h5
theorem e_L_shades {E : zEv} {D : Nat} {post : Int32 → zM → Prop} {M : zM} {x2 : Int32}  (h : zCi E jX11_shades D 2 [.ref 19, .int x2] M (fun r3 M1 => ∀ M4 : zM, M4 = zupL M1 18 ((0 : Int32)).toNatClampNeg ((r3).toInt64) → post (0 : Int32) M4) (fun X M9 => (X = "java/lang/IndexOutOfBoundsException" ∧ post (1 : Int32) M9) ∨ (X = "java/lang/IllegalArgumentException" ∧ post (2 : Int32) M9))) : zCWi E jL_shades (D + 1) 2 [.ref 19, .int x2, .ref 18] M post := by
  refine z_methW (by decide) (Nat.le_of_ble_eq_true rfl) ?_
  show Z E jL_shades (D + 1) 2 (zQi post (fun _ _ => False)) 0 0 [.ref 19, .int x2, .ref 18, zU] [] M
  refine z_aload_n dL_shades_0 rfl ?_
  refine z_iconst (v := (0 : Int32)) dL_shades_1 rfl ?_
  refine z_aload_n dL_shades_2 rfl ?_
  refine z_iload_n dL_shades_3 rfl ?_
  refine z_callCi (px1 := (fun X M9 => (X = "java/lang/IndexOutOfBoundsException" ∧ post (1 : Int32) M9) ∨ (X = "java/lang/IllegalArgumentException" ∧ post (2 : Int32) M9))) (As := [.int x2]) (st := [.int (0 : Int32), .ref 18]) dL_shades_4 zi_L_105 rfl rfl zs_19 rfl rfl (Nat.le_of_ble_eq_true rfl) (by decide) (fun X M9 hx => by
    rcases hx with ⟨rfl, hx⟩ | ⟨rfl, hx⟩
    · exact ⟨12, 1, ⟨[], ⟨0, 9, 12, 24⟩, [⟨0, 9, 15, 13⟩], rfl, (fun z hz => nomatch hz), by decide, by decide, ⟨"java/lang/IndexOutOfBoundsException", zw_925, zw_937⟩, rfl⟩, ⟨rfl, 1, rfl, Or.inl ⟨3, by decide, dL_shades_12, dL_shades_13, dL_shades_14⟩⟩, hx⟩
    · exact ⟨15, 2, ⟨[⟨0, 9, 12, 24⟩], ⟨0, 9, 15, 13⟩, [], rfl, (fun z hz => by rw [List.mem_singleton.mp hz]; exact ⟨by decide, by decide, "java/lang/IndexOutOfBoundsException", zw_925, fun U h => h.2.2⟩), by decide, by decide, ⟨"java/lang/IllegalArgumentException", zw_624, zw_764⟩, rfl⟩, ⟨rfl, 2, rfl, Or.inl ⟨3, by decide, dL_shades_15, dL_shades_16, dL_shades_17⟩⟩, hx⟩) h ?_
  intro r3 M1 h2
  refine z_i2l (v := ((r3).toInt64)) dL_shades_7 rfl ?_
  refine z_last dL_shades_8 zs_18 (by unfold vp_in; decide) ?_
  generalize hhM4 : zupL M1 18 ((0 : Int32)).toNatClampNeg ((r3).toInt64) = M4
  have h5 := h2 M4 hhM4.symm
  refine z_goto (tgt := 18) dL_shades_9 (by decide) ?_
  refine z_iconst (v := (0 : Int32)) dL_shades_18 rfl ?_
  exact z_iret dL_shades_19 rfl rfl (by decide) h5
theorem e_L_vinegar {E : zEv} {D : Nat} {post : Int32 → zM → Prop} {M : zM} {x2 : Int32} {x3 : Int32}  (h : zCi E jX11_vinegar D 2 [.ref 19, .int x2, .int x3] M (fun r3 M1 => ∀ M4 : zM, M4 = zupL M1 18 ((0 : Int32)).toNatClampNeg ((r3).toInt64) → post (0 : Int32) M4) (fun X M9 => (X = "java/lang/IndexOutOfBoundsException" ∧ post (1 : Int32) M9))) : zCWi E jL_vinegar (D + 1) 2 [.ref 19, .int x2, .int x3, .ref 18] M post := by
  refine z_methW (by decide) (Nat.le_of_ble_eq_true rfl) ?_
  show Z E jL_vinegar (D + 1) 2 (zQi post (fun _ _ => False)) 0 0 [.ref 19, .int x2, .int x3, .ref 18, zU] [] M
  refine z_aload_n dL_vinegar_0 rfl ?_
  refine z_iconst (v := (0 : Int32)) dL_vinegar_1 rfl ?_
  refine z_aload_n dL_vinegar_2 rfl ?_
  refine z_iload_n dL_vinegar_3 rfl ?_
  refine z_iload_n dL_vinegar_4 rfl ?_
  refine z_callCi (px1 := (fun X M9 => (X = "java/lang/IndexOutOfBoundsException" ∧ post (1 : Int32) M9))) (As := [.int x2, .int x3]) (st := [.int (0 : Int32), .ref 18]) dL_vinegar_5 zi_L_108 rfl rfl zs_19 rfl rfl (Nat.le_of_ble_eq_true rfl) (by decide) (fun X M9 hx => by
    obtain ⟨rfl, hx⟩ := hx
    · exact ⟨13, 1, ⟨[], ⟨0, 10, 13, 24⟩, [], rfl, (fun z hz => nomatch hz), by decide, by decide, ⟨"java/lang/IndexOutOfBoundsException", zw_925, zw_937⟩, rfl⟩, ⟨rfl, 1, rfl, Or.inr ⟨4, by decide, dL_vinegar_13, dL_vinegar_15, dL_vinegar_16⟩⟩, hx⟩) h ?_
  intro r3 M1 h2
  refine z_i2l (v := ((r3).toInt64)) dL_vinegar_8 rfl ?_
  refine z_last dL_vinegar_9 zs_18 (by unfold vp_in; decide) ?_
  generalize hhM4 : zupL M1 18 ((0 : Int32)).toNatClampNeg ((r3).toInt64) = M4
  have h5 := h2 M4 hhM4.symm
  refine z_goto (tgt := 17) dL_vinegar_10 (by decide) ?_
  refine z_iconst (v := (0 : Int32)) dL_vinegar_17 rfl ?_
  exact z_iret dL_vinegar_18 rfl rfl (by decide) h5
def w_L_betrays_16 (E : zEv) (D : Nat) (post : Int32 → zM → Prop) (px : String → zM → Prop)  (s0 : Int64) (s1 : Int32) (M : zM) : Prop := Z E jL_betrays (D + 1) 3 (zQi post px) 16 3 [zU, zU, zU, zU, zU] [.long s0, .int s1, .ref 18] M
theorem e_L_betrays {E : zEv} {D : Nat} {post : Int32 → zM → Prop} {M : zM} {x2 : Int32} {x3 : Int32}  (h : zCi E jX11_betrays D 3 [.ref 19, .int x2, .int x3] M (fun r3 M1 => ((r3 = 0 → w_L_betrays_16 E D post (fun _ _ => False) (0 : Int64) (0 : Int32) M1) ∧ (¬ r3 = 0 → w_L_betrays_16 E D post (fun _ _ => False) (1 : Int64) (0 : Int32) M1))) (fun X M9 => (X = "java/lang/IndexOutOfBoundsException" ∧ post (1 : Int32) M9) ∨ (X = "java/lang/IllegalArgumentException" ∧ post (2 : Int32) M9))) : zCWi E jL_betrays (D + 1) 3 [.ref 19, .int x2, .int x3, .ref 18] M post := by
  refine z_methW (by decide) (Nat.le_of_ble_eq_true rfl) ?_
  show Z E jL_betrays (D + 1) 3 (zQi post (fun _ _ => False)) 0 0 [.ref 19, .int x2, .int x3, .ref 18, zU] [] M
  refine z_aload_n dL_betrays_0 rfl ?_
  refine z_iconst (v := (0 : Int32)) dL_betrays_1 rfl ?_
  refine z_aload_n dL_betrays_2 rfl ?_
  refine z_iload_n dL_betrays_3 rfl ?_
  refine z_iload_n dL_betrays_4 rfl ?_
  refine z_callCi (px1 := (fun X M9 => (X = "java/lang/IndexOutOfBoundsException" ∧ post (1 : Int32) M9) ∨ (X = "java/lang/IllegalArgumentException" ∧ post (2 : Int32) M9))) (As := [.int x2, .int x3]) (st := [.int (0 : Int32), .ref 18]) dL_betrays_5 zi_L_111 rfl rfl zs_19 rfl rfl (Nat.le_of_ble_eq_true rfl) (by decide) (fun X M9 hx => by
    rcases hx with ⟨rfl, hx⟩ | ⟨rfl, hx⟩
    · exact ⟨20, 1, ⟨[], ⟨0, 17, 20, 24⟩, [⟨0, 17, 24, 13⟩], rfl, (fun z hz => nomatch hz), by decide, by decide, ⟨"java/lang/IndexOutOfBoundsException", zw_925, zw_937⟩, rfl⟩, ⟨rfl, 1, rfl, Or.inr ⟨4, by decide, dL_betrays_20, dL_betrays_22, dL_betrays_23⟩⟩, hx⟩
    · exact ⟨24, 2, ⟨[⟨0, 17, 20, 24⟩], ⟨0, 17, 24, 13⟩, [], rfl, (fun z hz => by rw [List.mem_singleton.mp hz]; exact ⟨by decide, by decide, "java/lang/IndexOutOfBoundsException", zw_925, fun U h => h.2.2⟩), by decide, by decide, ⟨"java/lang/IllegalArgumentException", zw_624, zw_764⟩, rfl⟩, ⟨rfl, 2, rfl, Or.inr ⟨4, by decide, dL_betrays_24, dL_betrays_26, dL_betrays_27⟩⟩, hx⟩) h ?_
  intro r3 M1 h2
  refine z_if_eq (tgt := 15) dL_betrays_8 (by decide) (fun g4 => ?_) (fun g4 => ?_)
  · have h5 := h2.1 g4
    refine z_lconst (v := (0 : Int64)) dL_betrays_15 rfl ?_
    refine z_weak [false, false, false, false, false] (ls' := [zU, zU, zU, zU, zU]) rfl rfl ?_
    exact h5
  · have h6 := h2.2 g4
    refine z_lconst (v := (1 : Int64)) dL_betrays_11 rfl ?_
    refine z_goto (tgt := 16) dL_betrays_12 (by decide) ?_
    refine z_weak [false, false, false, false, false] (ls' := [zU, zU, zU, zU, zU]) rfl rfl ?_
    exact h6
theorem t_L_betrays_16 {E : zEv} {D : Nat} {post : Int32 → zM → Prop} {px : String → zM → Prop} {M : zM}   {s0 : Int64} {s1 : Int32} (h : vp_in s1 1 ∧ ∀ M3 : zM, M3 = zupL M 18 (s1).toNatClampNeg s0 → post (0 : Int32) M3) : w_L_betrays_16 E D post px s0 s1 M := by
  show Z E jL_betrays (D + 1) 3 (zQi post px) 16 3 [zU, zU, zU, zU, zU] [.long s0, .int s1, .ref 18] M
  obtain ⟨g2, h1⟩ := h
  refine z_last dL_betrays_16 zs_18 g2 ?_
  generalize hhM3 : zupL M 18 (s1).toNatClampNeg s0 = M3
  have h4 := h1 M3 hhM3.symm
  refine z_goto (tgt := 28) dL_betrays_17 (by decide) ?_
  refine z_iconst (v := (0 : Int32)) dL_betrays_28 rfl ?_
  exact z_iret dL_betrays_29 rfl rfl (by decide) h4
theorem e_L_couples {E : zEv} {D : Nat} {post : Int32 → zM → Prop} {M : zM} {x2 : Int32}  (h : zCi E jX11_couples D 1 [.ref 19, .int x2] M (fun r3 M1 => ∀ M4 : zM, M4 = zupL M1 18 ((0 : Int32)).toNatClampNeg ((r3).toInt64) → post (0 : Int32) M4) (fun X M9 => (X = "java/lang/IndexOutOfBoundsException" ∧ post (1 : Int32) M9))) : zCWi E jL_couples (D + 1) 1 [.ref 19, .int x2, .ref 18] M post := by
  refine z_methW (by decide) (Nat.le_of_ble_eq_true rfl) ?_
  show Z E jL_couples (D + 1) 1 (zQi post (fun _ _ => False)) 0 0 [.ref 19, .int x2, .ref 18, zU] [] M
  refine z_aload_n dL_couples_0 rfl ?_
  refine z_iconst (v := (0 : Int32)) dL_couples_1 rfl ?_
  refine z_aload_n dL_couples_2 rfl ?_
  refine z_iload_n dL_couples_3 rfl ?_
  refine z_callCi (px1 := (fun X M9 => (X = "java/lang/IndexOutOfBoundsException" ∧ post (1 : Int32) M9))) (As := [.int x2]) (st := [.int (0 : Int32), .ref 18]) dL_couples_4 zi_L_115 rfl rfl zs_19 rfl rfl (Nat.le_of_ble_eq_true rfl) (by decide) (fun X M9 hx => by
    obtain ⟨rfl, hx⟩ := hx
    · exact ⟨12, 1, ⟨[], ⟨0, 9, 12, 24⟩, [], rfl, (fun z hz => nomatch hz), by decide, by decide, ⟨"java/lang/IndexOutOfBoundsException", zw_925, zw_937⟩, rfl⟩, ⟨rfl, 1, rfl, Or.inl ⟨3, by decide, dL_couples_12, dL_couples_13, dL_couples_14⟩⟩, hx⟩) h ?_
  intro r3 M1 h2
  refine z_i2l (v := ((r3).toInt64)) dL_couples_7 rfl ?_
  refine z_last dL_couples_8 zs_18 (by unfold vp_in; decide) ?_
  generalize hhM4 : zupL M1 18 ((0 : Int32)).toNatClampNeg ((r3).toInt64) = M4
  have h5 := h2 M4 hhM4.symm
  refine z_goto (tgt := 15) dL_couples_9 (by decide) ?_
  refine z_iconst (v := (0 : Int32)) dL_couples_15 rfl ?_
  exact z_iret dL_couples_16 rfl rfl (by decide) h5
theorem e_L_between {E : zEv} {D : Nat} {post : Int32 → zM → Prop} {M : zM} {x2 : Int32} {x3 : Int32}  (h : zCi E jX11_between D 3 [.ref 19, .int x2, .int x3] M (fun r3 M1 => ∀ M4 : zM, M4 = zupL M1 18 ((0 : Int32)).toNatClampNeg ((r3).toInt64) → post (0 : Int32) M4) (fun X M9 => (X = "java/lang/IndexOutOfBoundsException" ∧ post (1 : Int32) M9) ∨ (X = "java/lang/IllegalArgumentException" ∧ post (2 : Int32) M9))) : zCWi E jL_between (D + 1) 3 [.ref 19, .int x2, .int x3, .ref 18] M post := by
  refine z_methW (by decide) (Nat.le_of_ble_eq_true rfl) ?_
  show Z E jL_between (D + 1) 3 (zQi post (fun _ _ => False)) 0 0 [.ref 19, .int x2, .int x3, .ref 18, zU] [] M
  refine z_aload_n dL_between_0 rfl ?_
  refine z_iconst (v := (0 : Int32)) dL_between_1 rfl ?_
  refine z_aload_n dL_between_2 rfl ?_
  refine z_iload_n dL_between_3 rfl ?_
  refine z_iload_n dL_between_4 rfl ?_
  refine z_callCi (px1 := (fun X M9 => (X = "java/lang/IndexOutOfBoundsException" ∧ post (1 : Int32) M9) ∨ (X = "java/lang/IllegalArgumentException" ∧ post (2 : Int32) M9))) (As := [.int x2, .int x3]) (st := [.int (0 : Int32), .ref 18]) dL_between_5 zi_L_118 rfl rfl zs_19 rfl rfl (Nat.le_of_ble_eq_true rfl) (by decide) (fun X M9 hx => by
    rcases hx with ⟨rfl, hx⟩ | ⟨rfl, hx⟩
    · exact ⟨13, 1, ⟨[], ⟨0, 10, 13, 24⟩, [⟨0, 10, 17, 13⟩], rfl, (fun z hz => nomatch hz), by decide, by decide, ⟨"java/lang/IndexOutOfBoundsException", zw_925, zw_937⟩, rfl⟩, ⟨rfl, 1, rfl, Or.inr ⟨4, by decide, dL_between_13, dL_between_15, dL_between_16⟩⟩, hx⟩
    · exact ⟨17, 2, ⟨[⟨0, 10, 13, 24⟩], ⟨0, 10, 17, 13⟩, [], rfl, (fun z hz => by rw [List.mem_singleton.mp hz]; exact ⟨by decide, by decide, "java/lang/IndexOutOfBoundsException", zw_925, fun U h => h.2.2⟩), by decide, by decide, ⟨"java/lang/IllegalArgumentException", zw_624, zw_764⟩, rfl⟩, ⟨rfl, 2, rfl, Or.inr ⟨4, by decide, dL_between_17, dL_between_19, dL_between_20⟩⟩, hx⟩) h ?_
  intro r3 M1 h2
  refine z_i2l (v := ((r3).toInt64)) dL_between_8 rfl ?_
  refine z_last dL_between_9 zs_18 (by unfold vp_in; decide) ?_
  generalize hhM4 : zupL M1 18 ((0 : Int32)).toNatClampNeg ((r3).toInt64) = M4
  have h5 := h2 M4 hhM4.symm
  refine z_goto (tgt := 21) dL_between_10 (by decide) ?_
  refine z_iconst (v := (0 : Int32)) dL_between_21 rfl ?_
  exact z_iret dL_between_22 rfl rfl (by decide) h5
theorem e_L_rests {E : zEv} {D : Nat} {post : Int32 → zM → Prop} {M : zM} {x2 : Int32} {x3 : Int32}  (h : zCi E jX11_rests D 2 [.ref 19, .int x2, .int x3] M (fun r3 M1 => ∀ M4 : zM, M4 = zupL M1 18 ((0 : Int32)).toNatClampNeg ((r3).toInt64) → post (0 : Int32) M4) (fun X M9 => (X = "java/lang/IndexOutOfBoundsException" ∧ post (1 : Int32) M9))) : zCWi E jL_rests (D + 1) 2 [.ref 19, .int x2, .int x3, .ref 18] M post := by
  refine z_methW (by decide) (Nat.le_of_ble_eq_true rfl) ?_
  show Z E jL_rests (D + 1) 2 (zQi post (fun _ _ => False)) 0 0 [.ref 19, .int x2, .int x3, .ref 18, zU] [] M
  refine z_aload_n dL_rests_0 rfl ?_
  refine z_iconst (v := (0 : Int32)) dL_rests_1 rfl ?_
  refine z_aload_n dL_rests_2 rfl ?_
  refine z_iload_n dL_rests_3 rfl ?_
  refine z_iload_n dL_rests_4 rfl ?_
  refine z_callCi (px1 := (fun X M9 => (X = "java/lang/IndexOutOfBoundsException" ∧ post (1 : Int32) M9))) (As := [.int x2, .int x3]) (st := [.int (0 : Int32), .ref 18]) dL_rests_5 zi_L_121 rfl rfl zs_19 rfl rfl (Nat.le_of_ble_eq_true rfl) (by decide) (fun X M9 hx => by
    obtain ⟨rfl, hx⟩ := hx
    · exact ⟨13, 1, ⟨[], ⟨0, 10, 13, 24⟩, [], rfl, (fun z hz => nomatch hz), by decide, by decide, ⟨"java/lang/IndexOutOfBoundsException", zw_925, zw_937⟩, rfl⟩, ⟨rfl, 1, rfl, Or.inr ⟨4, by decide, dL_rests_13, dL_rests_15, dL_rests_16⟩⟩, hx⟩) h ?_
  intro r3 M1 h2
  refine z_i2l (v := ((r3).toInt64)) dL_rests_8 rfl ?_
  refine z_last dL_rests_9 zs_18 (by unfold vp_in; decide) ?_
  generalize hhM4 : zupL M1 18 ((0 : Int32)).toNatClampNeg ((r3).toInt64) = M4
  have h5 := h2 M4 hhM4.symm
  refine z_goto (tgt := 17) dL_rests_10 (by decide) ?_
  refine z_iconst (v := (0 : Int32)) dL_rests_17 rfl ?_
  exact z_iret dL_rests_18 rfl rfl (by decide) h5
theorem e_L_odds {E : zEv} {D : Nat} {post : Int32 → zM → Prop} {M : zM} {x2 : Int32} {x3 : Int32}  (h : zCi E jX11_odds D 1 [.ref 19, .int x2, .int x3] M (fun r3 M1 => ∀ M4 : zM, M4 = zupL M1 18 ((0 : Int32)).toNatClampNeg ((r3).toInt64) → post (0 : Int32) M4) (fun X M9 => (X = "java/lang/IllegalArgumentException" ∧ post (1 : Int32) M9))) : zCWi E jL_odds (D + 1) 1 [.ref 19, .int x2, .int x3, .ref 18] M post := by
  refine z_methW (by decide) (Nat.le_of_ble_eq_true rfl) ?_
  show Z E jL_odds (D + 1) 1 (zQi post (fun _ _ => False)) 0 0 [.ref 19, .int x2, .int x3, .ref 18, zU] [] M
  refine z_aload_n dL_odds_0 rfl ?_
  refine z_iconst (v := (0 : Int32)) dL_odds_1 rfl ?_
  refine z_aload_n dL_odds_2 rfl ?_
  refine z_iload_n dL_odds_3 rfl ?_
  refine z_iload_n dL_odds_4 rfl ?_
  refine z_callCi (px1 := (fun X M9 => (X = "java/lang/IllegalArgumentException" ∧ post (1 : Int32) M9))) (As := [.int x2, .int x3]) (st := [.int (0 : Int32), .ref 18]) dL_odds_5 zi_L_124 rfl rfl zs_19 rfl rfl (Nat.le_of_ble_eq_true rfl) (by decide) (fun X M9 hx => by
    obtain ⟨rfl, hx⟩ := hx
    · exact ⟨13, 1, ⟨[], ⟨0, 10, 13, 13⟩, [], rfl, (fun z hz => nomatch hz), by decide, by decide, ⟨"java/lang/IllegalArgumentException", zw_624, zw_764⟩, rfl⟩, ⟨rfl, 1, rfl, Or.inr ⟨4, by decide, dL_odds_13, dL_odds_15, dL_odds_16⟩⟩, hx⟩) h ?_
  intro r3 M1 h2
  refine z_i2l (v := ((r3).toInt64)) dL_odds_8 rfl ?_
  refine z_last dL_odds_9 zs_18 (by unfold vp_in; decide) ?_
  generalize hhM4 : zupL M1 18 ((0 : Int32)).toNatClampNeg ((r3).toInt64) = M4
  have h5 := h2 M4 hhM4.symm
  refine z_goto (tgt := 17) dL_odds_10 (by decide) ?_
  refine z_iconst (v := (0 : Int32)) dL_odds_17 rfl ?_
  exact z_iret dL_odds_18 rfl rfl (by decide) h5
theorem e_L_ahead {E : zEv} {D : Nat} {post : Int32 → zM → Prop} {M : zM} {x2 : Int32} {x3 : Int32}  (h : zCi E jX11_ahead D 2 [.ref 19, .int x2, .int x3] M (fun r3 M1 => ∀ M4 : zM, M4 = zupL M1 18 ((0 : Int32)).toNatClampNeg ((r3).toInt64) → post (0 : Int32) M4) (fun X M9 => (X = "java/lang/IndexOutOfBoundsException" ∧ post (1 : Int32) M9) ∨ (X = "java/lang/IllegalArgumentException" ∧ post (2 : Int32) M9))) : zCWi E jL_ahead (D + 1) 2 [.ref 19, .int x2, .int x3, .ref 18] M post := by
  refine z_methW (by decide) (Nat.le_of_ble_eq_true rfl) ?_
  show Z E jL_ahead (D + 1) 2 (zQi post (fun _ _ => False)) 0 0 [.ref 19, .int x2, .int x3, .ref 18, zU] [] M
  refine z_aload_n dL_ahead_0 rfl ?_
  refine z_iconst (v := (0 : Int32)) dL_ahead_1 rfl ?_
  refine z_aload_n dL_ahead_2 rfl ?_
  refine z_iload_n dL_ahead_3 rfl ?_
  refine z_iload_n dL_ahead_4 rfl ?_
  refine z_callCi (px1 := (fun X M9 => (X = "java/lang/IndexOutOfBoundsException" ∧ post (1 : Int32) M9) ∨ (X = "java/lang/IllegalArgumentException" ∧ post (2 : Int32) M9))) (As := [.int x2, .int x3]) (st := [.int (0 : Int32), .ref 18]) dL_ahead_5 zi_L_127 rfl rfl zs_19 rfl rfl (Nat.le_of_ble_eq_true rfl) (by decide) (fun X M9 hx => by
    rcases hx with ⟨rfl, hx⟩ | ⟨rfl, hx⟩
    · exact ⟨13, 1, ⟨[], ⟨0, 10, 13, 24⟩, [⟨0, 10, 17, 13⟩], rfl, (fun z hz => nomatch hz), by decide, by decide, ⟨"java/lang/IndexOutOfBoundsException", zw_925, zw_937⟩, rfl⟩, ⟨rfl, 1, rfl, Or.inr ⟨4, by decide, dL_ahead_13, dL_ahead_15, dL_ahead_16⟩⟩, hx⟩
    · exact ⟨17, 2, ⟨[⟨0, 10, 13, 24⟩], ⟨0, 10, 17, 13⟩, [], rfl, (fun z hz => by rw [List.mem_singleton.mp hz]; exact ⟨by decide, by decide, "java/lang/IndexOutOfBoundsException", zw_925, fun U h => h.2.2⟩), by decide, by decide, ⟨"java/lang/IllegalArgumentException", zw_624, zw_764⟩, rfl⟩, ⟨rfl, 2, rfl, Or.inr ⟨4, by decide, dL_ahead_17, dL_ahead_19, dL_ahead_20⟩⟩, hx⟩) h ?_
  intro r3 M1 h2
  refine z_i2l (v := ((r3).toInt64)) dL_ahead_8 rfl ?_
  refine z_last dL_ahead_9 zs_18 (by unfold vp_in; decide) ?_
  generalize hhM4 : zupL M1 18 ((0 : Int32)).toNatClampNeg ((r3).toInt64) = M4
  have h5 := h2 M4 hhM4.symm
  refine z_goto (tgt := 21) dL_ahead_10 (by decide) ?_
  refine z_iconst (v := (0 : Int32)) dL_ahead_21 rfl ?_
  exact z_iret dL_ahead_22 rfl rfl (by decide) h5
theorem e_L_trial {E : zEv} {D : Nat} {post : Int32 → zM → Prop} {M : zM} {x2 : Int32} {x3 : Int32}  (h : zCi E jX11_trial D 1 [.ref 19, .int x2, .int x3] M (fun r3 M1 => ∀ M4 : zM, M4 = zupL M1 18 ((0 : Int32)).toNatClampNeg ((r3).toInt64) → post (0 : Int32) M4) (fun X M9 => (X = "java/lang/IllegalArgumentException" ∧ post (1 : Int32) M9))) : zCWi E jL_trial (D + 1) 1 [.ref 19, .int x2, .int x3, .ref 18] M post := by
  refine z_methW (by decide) (Nat.le_of_ble_eq_true rfl) ?_
  show Z E jL_trial (D + 1) 1 (zQi post (fun _ _ => False)) 0 0 [.ref 19, .int x2, .int x3, .ref 18, zU] [] M
  refine z_aload_n dL_trial_0 rfl ?_
  refine z_iconst (v := (0 : Int32)) dL_trial_1 rfl ?_
  refine z_aload_n dL_trial_2 rfl ?_
  refine z_iload_n dL_trial_3 rfl ?_
  refine z_iload_n dL_trial_4 rfl ?_
  refine z_callCi (px1 := (fun X M9 => (X = "java/lang/IllegalArgumentException" ∧ post (1 : Int32) M9))) (As := [.int x2, .int x3]) (st := [.int (0 : Int32), .ref 18]) dL_trial_5 zi_L_130 rfl rfl zs_19 rfl rfl (Nat.le_of_ble_eq_true rfl) (by decide) (fun X M9 hx => by
    obtain ⟨rfl, hx⟩ := hx
    · exact ⟨13, 1, ⟨[], ⟨0, 10, 13, 13⟩, [], rfl, (fun z hz => nomatch hz), by decide, by decide, ⟨"java/lang/IllegalArgumentException", zw_624, zw_764⟩, rfl⟩, ⟨rfl, 1, rfl, Or.inr ⟨4, by decide, dL_trial_13, dL_trial_15, dL_trial_16⟩⟩, hx⟩) h ?_
  intro r3 M1 h2
  refine z_i2l (v := ((r3).toInt64)) dL_trial_8 rfl ?_
  refine z_last dL_trial_9 zs_18 (by unfold vp_in; decide) ?_
  generalize hhM4 : zupL M1 18 ((0 : Int32)).toNatClampNeg ((r3).toInt64) = M4
  have h5 := h2 M4 hhM4.symm
  refine z_goto (tgt := 17) dL_trial_10 (by decide) ?_
  refine z_iconst (v := (0 : Int32)) dL_trial_17 rfl ?_
  exact z_iret dL_trial_18 rfl rfl (by decide) h5
theorem e_L_span {E : zEv} {D : Nat} {post : Int32 → zM → Prop} {M : zM} {x2 : Int32} {x3 : Int32}  (h : zCi E jX11_span D 1 [.ref 19, .int x2, .int x3] M (fun r3 M1 => ∀ M4 : zM, M4 = zupL M1 18 ((0 : Int32)).toNatClampNeg ((r3).toInt64) → post (0 : Int32) M4) (fun X M9 => (X = "java/lang/IllegalArgumentException" ∧ post (1 : Int32) M9))) : zCWi E jL_span (D + 1) 1 [.ref 19, .int x2, .int x3, .ref 18] M post := by
  refine z_methW (by decide) (Nat.le_of_ble_eq_true rfl) ?_
  show Z E jL_span (D + 1) 1 (zQi post (fun _ _ => False)) 0 0 [.ref 19, .int x2, .int x3, .ref 18, zU] [] M
  refine z_aload_n dL_span_0 rfl ?_
  refine z_iconst (v := (0 : Int32)) dL_span_1 rfl ?_
  refine z_aload_n dL_span_2 rfl ?_
  refine z_iload_n dL_span_3 rfl ?_
  refine z_iload_n dL_span_4 rfl ?_
  refine z_callCi (px1 := (fun X M9 => (X = "java/lang/IllegalArgumentException" ∧ post (1 : Int32) M9))) (As := [.int x2, .int x3]) (st := [.int (0 : Int32), .ref 18]) dL_span_5 zi_L_134 rfl rfl zs_19 rfl rfl (Nat.le_of_ble_eq_true rfl) (by decide) (fun X M9 hx => by
    obtain ⟨rfl, hx⟩ := hx
    · exact ⟨13, 1, ⟨[], ⟨0, 10, 13, 13⟩, [], rfl, (fun z hz => nomatch hz), by decide, by decide, ⟨"java/lang/IllegalArgumentException", zw_624, zw_764⟩, rfl⟩, ⟨rfl, 1, rfl, Or.inr ⟨4, by decide, dL_span_13, dL_span_15, dL_span_16⟩⟩, hx⟩) h ?_
  intro r3 M1 h2
  refine z_i2l (v := ((r3).toInt64)) dL_span_8 rfl ?_
  refine z_last dL_span_9 zs_18 (by unfold vp_in; decide) ?_
  generalize hhM4 : zupL M1 18 ((0 : Int32)).toNatClampNeg ((r3).toInt64) = M4
  have h5 := h2 M4 hhM4.symm
  refine z_goto (tgt := 17) dL_span_10 (by decide) ?_
  refine z_iconst (v := (0 : Int32)) dL_span_17 rfl ?_
  exact z_iret dL_span_18 rfl rfl (by decide) h5
theorem e_L_led {E : zEv} {D : Nat} {post : Int32 → zM → Prop} {M : zM} {x2 : Int32} {x3 : Int32}  (h : zCi E jX11_led D 1 [.ref 19, .int x2, .int x3] M (fun r3 M1 => ∀ M4 : zM, M4 = zupL M1 18 ((0 : Int32)).toNatClampNeg ((r3).toInt64) → post (0 : Int32) M4) (fun X M9 => (X = "java/lang/IndexOutOfBoundsException" ∧ post (1 : Int32) M9))) : zCWi E jL_led (D + 1) 1 [.ref 19, .int x2, .int x3, .ref 18] M post := by
  refine z_methW (by decide) (Nat.le_of_ble_eq_true rfl) ?_
  show Z E jL_led (D + 1) 1 (zQi post (fun _ _ => False)) 0 0 [.ref 19, .int x2, .int x3, .ref 18, zU] [] M
  refine z_aload_n dL_led_0 rfl ?_
  refine z_iconst (v := (0 : Int32)) dL_led_1 rfl ?_
  refine z_aload_n dL_led_2 rfl ?_
  refine z_iload_n dL_led_3 rfl ?_
  refine z_iload_n dL_led_4 rfl ?_
  refine z_callCi (px1 := (fun X M9 => (X = "java/lang/IndexOutOfBoundsException" ∧ post (1 : Int32) M9))) (As := [.int x2, .int x3]) (st := [.int (0 : Int32), .ref 18]) dL_led_5 zi_L_137 rfl rfl zs_19 rfl rfl (Nat.le_of_ble_eq_true rfl) (by decide) (fun X M9 hx => by
    obtain ⟨rfl, hx⟩ := hx
    · exact ⟨13, 1, ⟨[], ⟨0, 10, 13, 24⟩, [], rfl, (fun z hz => nomatch hz), by decide, by decide, ⟨"java/lang/IndexOutOfBoundsException", zw_925, zw_937⟩, rfl⟩, ⟨rfl, 1, rfl, Or.inr ⟨4, by decide, dL_led_13, dL_led_15, dL_led_16⟩⟩, hx⟩) h ?_
  intro r3 M1 h2
  refine z_i2l (v := ((r3).toInt64)) dL_led_8 rfl ?_
  refine z_last dL_led_9 zs_18 (by unfold vp_in; decide) ?_
  generalize hhM4 : zupL M1 18 ((0 : Int32)).toNatClampNeg ((r3).toInt64) = M4
  have h5 := h2 M4 hhM4.symm
  refine z_goto (tgt := 17) dL_led_10 (by decide) ?_
  refine z_iconst (v := (0 : Int32)) dL_led_17 rfl ?_
  exact z_iret dL_led_18 rfl rfl (by decide) h5
theorem e_L_log {E : zEv} {D : Nat} {post : Int32 → zM → Prop} {M : zM} {x2 : Int32} {x3 : Int32}  (h : zCi E jX11_log D 1 [.ref 19, .int x2, .int x3] M (fun r3 M1 => ∀ M4 : zM, M4 = zupL M1 18 ((0 : Int32)).toNatClampNeg ((r3).toInt64) → post (0 : Int32) M4) (fun X M9 => (X = "java/util/NoSuchElementException" ∧ post (1 : Int32) M9))) : zCWi E jL_log (D + 1) 1 [.ref 19, .int x2, .int x3, .ref 18] M post := by
  refine z_methW (by decide) (Nat.le_of_ble_eq_true rfl) ?_
  show Z E jL_log (D + 1) 1 (zQi post (fun _ _ => False)) 0 0 [.ref 19, .int x2, .int x3, .ref 18, zU] [] M
  refine z_aload_n dL_log_0 rfl ?_
  refine z_iconst (v := (0 : Int32)) dL_log_1 rfl ?_
  refine z_aload_n dL_log_2 rfl ?_
  refine z_iload_n dL_log_3 rfl ?_
  refine z_iload_n dL_log_4 rfl ?_
  refine z_callCi (px1 := (fun X M9 => (X = "java/util/NoSuchElementException" ∧ post (1 : Int32) M9))) (As := [.int x2, .int x3]) (st := [.int (0 : Int32), .ref 18]) dL_log_5 zi_L_140 rfl rfl zs_19 rfl rfl (Nat.le_of_ble_eq_true rfl) (by decide) (fun X M9 hx => by
    obtain ⟨rfl, hx⟩ := hx
    · exact ⟨13, 1, ⟨[], ⟨0, 10, 13, 26⟩, [], rfl, (fun z hz => nomatch hz), by decide, by decide, ⟨"java/util/NoSuchElementException", zw_926, zw_970⟩, rfl⟩, ⟨rfl, 1, rfl, Or.inr ⟨4, by decide, dL_log_13, dL_log_15, dL_log_16⟩⟩, hx⟩) h ?_
  intro r3 M1 h2
  refine z_i2l (v := ((r3).toInt64)) dL_log_8 rfl ?_
  refine z_last dL_log_9 zs_18 (by unfold vp_in; decide) ?_
  generalize hhM4 : zupL M1 18 ((0 : Int32)).toNatClampNeg ((r3).toInt64) = M4
  have h5 := h2 M4 hhM4.symm
  refine z_goto (tgt := 17) dL_log_10 (by decide) ?_
  refine z_iconst (v := (0 : Int32)) dL_log_17 rfl ?_
  exact z_iret dL_log_18 rfl rfl (by decide) h5
