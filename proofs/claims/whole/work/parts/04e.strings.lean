/-! ===== String.length, String.charAt over the literals ===== -/
section ZStr
variable {E : zEv} {D : Nat} {post : Int32 → zM → Prop} {px : String → zM → Prop} {M : zM} {w : Nat}
theorem zLit_ok : ∀ i, i < zLitN → (zLitL.getD i 0 = (zLitB.getD i []).length ∧ zLitL.getD i 0 ≤ 60 ∧ ∀ b ∈ zLitB.getD i [], b &&& 255 = b ∧ ((b &&& 255).toUInt32 % 65536).toInt32 = b ∧ narrow .char (.int b) = .int b) := by decide +kernel
theorem s_coder (hw : w < zLitN) (h : post 0 M) : zCi E jJ0_coder_7d493 D 0 [.ref (271 + w)] M post px := by
  refine z_meth (by decide) (Nat.le_of_ble_eq_true rfl) ?_
  show Z E jJ0_coder_7d493 D 0 (zQi post px) 0 0 [.ref (271 + w)] [] M
  refine z_getCS dJ0_coder_7d493_0 zw_661 ?_
  refine z_if_eq (tgt := 13) dJ0_coder_7d493_3 (by decide) (fun g => absurd g (by decide)) (fun _ => ?_)
  refine z_aload_n dJ0_coder_7d493_6 rfl ?_
  refine z_strcod dJ0_coder_7d493_7 zw_2253 hw ?_
  refine z_goto (tgt := 14) dJ0_coder_7d493_10 (by decide) ?_
  exact z_iret dJ0_coder_7d493_14 rfl (by decide) (by decide) h
theorem s_isLatin1 (hw : w < zLitN) (h : post 1 M) : zCi E jJ0_isLatin1_aae02 D 0 [.ref (271 + w)] M post px := by
  refine z_meth (by decide) (Nat.le_of_ble_eq_true rfl) ?_
  show Z E jJ0_isLatin1_aae02 D 0 (zQi post px) 0 0 [.ref (271 + w)] [] M
  refine z_getCS dJ0_isLatin1_aae02_0 zw_661 ?_
  refine z_if_eq (tgt := 17) dJ0_isLatin1_aae02_3 (by decide) (fun g => absurd g (by decide)) (fun _ => ?_)
  refine z_aload_n dJ0_isLatin1_aae02_6 rfl ?_
  refine z_strcod dJ0_isLatin1_aae02_7 zw_2253 hw ?_
  refine z_if_ne (tgt := 17) dJ0_isLatin1_aae02_10 (by decide) (fun g => absurd rfl g) (fun _ => ?_)
  refine z_iconst (v := 1) dJ0_isLatin1_aae02_13 rfl ?_
  refine z_goto (tgt := 18) dJ0_isLatin1_aae02_14 (by decide) ?_
  exact z_iret dJ0_isLatin1_aae02_18 rfl (by decide) (by decide) h
theorem s_length (hw : w < zLitN) (h : post (Int32.ofNat (zLitL.getD w 0)) M) : zCi E jJ0_length_8abf5 (D + 1) 0 [.ref (271 + w)] M post px := by
  refine z_meth (by decide) (Nat.le_of_ble_eq_true rfl) ?_
  show Z E jJ0_length_8abf5 (D + 1) 0 (zQi post px) 0 0 [.ref (271 + w)] [] M
  refine z_aload_n dJ0_length_8abf5_0 rfl ?_
  refine z_strval dJ0_length_8abf5_1 zw_2252 hw ?_
  refine z_strlen dJ0_length_8abf5_4 hw ?_
  refine z_aload_n dJ0_length_8abf5_5 rfl ?_
  refine z_callStri (As := []) (st := [.int (Int32.ofNat (zLitL.getD w 0))]) dJ0_length_8abf5_6 zi_J0_335 rfl rfl rfl hw (Nat.le_of_ble_eq_true rfl) (by decide) (fun _ _ hx => hx) (s_coder hw (post := fun r M' => r = 0 ∧ M' = M) ⟨rfl, rfl⟩) ?_
  rintro r M' ⟨rfl, rfl⟩
  refine z_ishr dJ0_length_8abf5_9 ?_
  refine z_iret dJ0_length_8abf5_10 rfl rfl (by decide) ?_
  show post (Int32.ofNat (zLitL.getD w 0) >>> (0 &&& 31)) M'
  rw [show ∀ x : Int32, x >>> ((0 : Int32) &&& 31) = x from fun x => by simp]
  exact h
end ZStr
