section ZChr
variable {E : zEv} {D : Nat} {post : Int32 → zM → Prop} {pov : zM → Prop} {px : String → zM → Prop} {M : zM} {w : Nat}
theorem s_pre {x n : Int32} {u : Value} (hu : u = .null ∨ u = .ref 401) (h0 : ¬ x < 0) (h1 : x < n) (h : post x M) : zCi E jJ3_checkIndex_8e157 D 0 [.int x, .int n, u] M post px := by
  refine z_meth (by decide) (by rcases hu with rfl | rfl <;> exact Nat.le_of_ble_eq_true rfl) ?_
  rcases hu with rfl | rfl
  · show Z E jJ3_checkIndex_8e157 D 0 (zQi post px) 0 0 [.int x, .int n, .null] [] M
    refine z_iload_n dJ3_checkIndex_8e157_0 rfl ?_
    refine z_if_lt (tgt := 9) dJ3_checkIndex_8e157_1 (by decide) (fun g => absurd g h0) (fun _ => ?_)
    refine z_iload_n dJ3_checkIndex_8e157_4 rfl ?_
    refine z_iload_n dJ3_checkIndex_8e157_5 rfl ?_
    refine z_icmp_lt (tgt := 16) dJ3_checkIndex_8e157_6 (by decide) (fun _ => ?_) (fun g => absurd h1 g)
    refine z_iload_n dJ3_checkIndex_8e157_16 rfl ?_
    exact z_iret dJ3_checkIndex_8e157_17 rfl rfl (by decide) h
  · show Z E jJ3_checkIndex_8e157 D 0 (zQi post px) 0 0 [.int x, .int n, .ref 401] [] M
    refine z_iload_n dJ3_checkIndex_8e157_0 rfl ?_
    refine z_if_lt (tgt := 9) dJ3_checkIndex_8e157_1 (by decide) (fun g => absurd g h0) (fun _ => ?_)
    refine z_iload_n dJ3_checkIndex_8e157_4 rfl ?_
    refine z_iload_n dJ3_checkIndex_8e157_5 rfl ?_
    refine z_icmp_lt (tgt := 16) dJ3_checkIndex_8e157_6 (by decide) (fun _ => ?_) (fun g => absurd h1 g)
    refine z_iload_n dJ3_checkIndex_8e157_16 rfl ?_
    exact z_iret dJ3_checkIndex_8e157_17 rfl rfl (by decide) h
theorem s_check {x n : Int32} (h0 : ¬ x < 0) (h1 : x < n) (h : pov M) : zCv E jJ0_checkIndex_df160 (D + 1) 0 [.int x, .int n] M pov px := by
  refine z_meth (by decide) (Nat.le_of_ble_eq_true rfl) ?_
  show Z E jJ0_checkIndex_df160 (D + 1) 0 (zQv pov px) 0 0 [.int x, .int n] [] M
  refine z_iload_n dJ0_checkIndex_df160_0 rfl ?_
  refine z_iload_n dJ0_checkIndex_df160_1 rfl ?_
  refine z_getFm dJ0_checkIndex_df160_2 zw_677 ?_ ?_
  · refine z_callSi (As := [.int x, .int n, .null]) (st := []) dJ0_checkIndex_df160_5 zi_J0_1059 rfl rfl (Nat.le_of_ble_eq_true rfl) (by decide) (fun _ _ hx => hx) (s_pre (post := fun _ M' => M' = M) (Or.inl rfl) h0 h1 rfl) ?_
    rintro r M' rfl
    refine z_pop dJ0_checkIndex_df160_8 rfl ?_
    exact z_vret dJ0_checkIndex_df160_9 rfl (by decide) h
  · refine z_callSi (As := [.int x, .int n, .ref 401]) (st := []) dJ0_checkIndex_df160_5 zi_J0_1059 rfl rfl (Nat.le_of_ble_eq_true rfl) (by decide) (fun _ _ hx => hx) (s_pre (post := fun _ M' => M' = M) (Or.inr rfl) h0 h1 rfl) ?_
    rintro r M' rfl
    refine z_pop dJ0_checkIndex_df160_8 rfl ?_
    exact z_vret dJ0_checkIndex_df160_9 rfl (by decide) h
/-- char i of literal w -/
def zCh (w i : Nat) : Int32 := (zLitB.getD w []).getD i 0
theorem zCh_ok {w i : Nat} (hw : w < zLitN) (hi : i < zLitL.getD w 0) : zCh w i &&& 255 = zCh w i ∧ ((zCh w i &&& 255).toUInt32 % 65536).toInt32 = zCh w i ∧ narrow .char (.int (zCh w i)) = .int (zCh w i) := by
  obtain ⟨h1, h2, h3⟩ := zLit_ok w hw
  refine h3 _ ?_
  unfold zCh
  rw [h1] at hi
  generalize zLitB.getD w [] = l at hi ⊢
  rw [List.getD_eq_getElem?_getD, List.getElem?_eq_getElem hi]
  exact List.getElem_mem hi
theorem s_lat {x : Int32} (hw : w < zLitN) (hx : vp_in x (zLitL.getD w 0)) (hlt : x < Int32.ofNat (zLitL.getD w 0)) (h : post (zCh w x.toNatClampNeg) M) : zCi E jJ1_charAt_3b067 (D + 2) 0 [.ref (320 + w), .int x] M post px := by
  have hi : x.toNatClampNeg < zLitL.getD w 0 := Nat.not_le.mp fun q => hx (Or.inr q)
  obtain ⟨c1, c2, c3⟩ := zCh_ok hw hi
  refine z_meth (by decide) (Nat.le_of_ble_eq_true rfl) ?_
  show Z E jJ1_charAt_3b067 (D + 2) 0 (zQi post px) 0 0 [.ref (320 + w), .int x] [] M
  refine z_iload_n dJ1_charAt_3b067_0 rfl ?_
  refine z_aload_n dJ1_charAt_3b067_1 rfl ?_
  refine z_strlen dJ1_charAt_3b067_2 hw ?_
  refine z_callSv (As := [.int x, .int (Int32.ofNat (zLitL.getD w 0))]) (st := []) dJ1_charAt_3b067_3 zi_J1_9 rfl rfl (Nat.le_of_ble_eq_true rfl) (by decide) (fun _ _ hx => hx) (s_check (pov := fun M' => M' = M) (fun q => hx (Or.inl q)) hlt rfl) ?_
  rintro M' rfl
  refine z_aload_n dJ1_charAt_3b067_6 rfl ?_
  refine z_iload_n dJ1_charAt_3b067_7 rfl ?_
  refine z_strbyte dJ1_charAt_3b067_8 hw hx ?_
  refine z_sipush (v := 255) dJ1_charAt_3b067_9 rfl ?_
  refine z_iand dJ1_charAt_3b067_12 ?_
  refine z_i2c (v := zCh w x.toNatClampNeg) dJ1_charAt_3b067_13 c2 ?_
  exact z_iret dJ1_charAt_3b067_14 rfl c3 (by decide) h
theorem s_charAt {x : Int32} (hw : w < zLitN) (hx : vp_in x (zLitL.getD w 0)) (hlt : x < Int32.ofNat (zLitL.getD w 0)) (h : post (zCh w x.toNatClampNeg) M) : zCi E jJ0_charAt_5068e (D + 3) 0 [.ref (271 + w), .int x] M post px := by
  have hi : x.toNatClampNeg < zLitL.getD w 0 := Nat.not_le.mp fun q => hx (Or.inr q)
  obtain ⟨c1, c2, c3⟩ := zCh_ok hw hi
  refine z_meth (by decide) (Nat.le_of_ble_eq_true rfl) ?_
  show Z E jJ0_charAt_5068e (D + 3) 0 (zQi post px) 0 0 [.ref (271 + w), .int x] [] M
  refine z_aload_n dJ0_charAt_5068e_0 rfl ?_
  refine z_callStri (As := []) (st := []) dJ0_charAt_5068e_1 zi_J0_492 rfl rfl rfl hw (Nat.le_of_ble_eq_true rfl) (by decide) (fun _ _ hx => hx) (s_isLatin1 hw (post := fun r M' => r = 1 ∧ M' = M) ⟨rfl, rfl⟩) ?_
  rintro r M' ⟨rfl, rfl⟩
  refine z_if_eq (tgt := 16) dJ0_charAt_5068e_4 (by decide) (fun g => absurd g (by decide)) (fun _ => ?_)
  refine z_aload_n dJ0_charAt_5068e_7 rfl ?_
  refine z_strval dJ0_charAt_5068e_8 zw_2252 hw ?_
  refine z_iload_n dJ0_charAt_5068e_11 rfl ?_
  refine z_callSi (As := [.ref (320 + w), .int x]) (st := []) dJ0_charAt_5068e_12 zi_J0_495 rfl rfl (Nat.le_of_ble_eq_true rfl) (by decide) (fun _ _ hx => hx) (s_lat hw hx hlt (post := fun r M2 => r = zCh w x.toNatClampNeg ∧ M2 = M') ⟨rfl, rfl⟩) ?_
  rintro r M2 ⟨rfl, rfl⟩
  exact z_iret dJ0_charAt_5068e_15 rfl c3 (by decide) h
end ZChr
