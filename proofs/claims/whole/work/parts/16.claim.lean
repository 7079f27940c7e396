/-! ===== the claim ===== -/
theorem z_pure : zPure := fun E hL => lp_loop (D := 1140) hL (fun _ => rfl) 512 0 0 zM0 (by omega) (Nat.le_refl 0) (by decide) z0_rel
theorem i_vc : Claimed_1_1 ∧ Claimed_1_2 := lw_claim z_pure
