/-! ===== Z: constants ===== -/
section ZD
variable {E : zEv} {J : zJ} {D K pc k : Nat} {Q : zO → zM → Prop} {ls st : List Value} {M : zM}
theorem z_ldc {idx : Nat} {v : Int32} (hd : decode J.2.1 pc = .ok (.ldc idx, 2)) (hz : Cond.constant J.1.cls idx v ∈ zT) (k0 : Z E J D K Q (pc + 2) k ls (.int v :: st) M) : Z E J D K Q pc k ls st M := by
  intro p e s m args below meth c H locs Ls hF hP hL
  exact W.ldc hF.1 hF.2.1 hF.own (hF.w hz) rfl hd (k0 p e s m args below meth c H locs Ls hF hP hL)
theorem z_ldcw {idx : Nat} {v : Int32} (hd : decode J.2.1 pc = .ok (.ldc_w idx, 3)) (hz : Cond.constant J.1.cls idx v ∈ zT) (k0 : Z E J D K Q (pc + 3) k ls (.int v :: st) M) : Z E J D K Q pc k ls st M := by
  intro p e s m args below meth c H locs Ls hF hP hL
  exact lv_ldcw hF.1 hF.2.1 hF.own (hF.w hz) hd (k0 p e s m args below meth c H locs Ls hF hP hL)
theorem z_ldc2 {idx : Nat} {v : Int64} (hd : decode J.2.1 pc = .ok (.ldc2_w idx, 3)) (hz : Cond.constantLong J.1.cls idx v ∈ zT) (k0 : Z E J D K Q (pc + 3) k ls (.long v :: st) M) : Z E J D K Q pc k ls st M := by
  intro p e s m args below meth c H locs Ls hF hP hL
  exact W.ldc2 hF.1 hF.2.1 hF.own (hF.w hz) rfl hd (k0 p e s m args below meth c H locs Ls hF hP hL)
theorem z_ldcS {idx i n : Nat} {tx : String} (hd : decode J.2.1 pc = .ok (.ldc idx, 2)) (hz : zStrs[i]? = some (J.1.cls, idx, tx, n)) (k0 : Z E J D K Q (pc + 2) k ls (.ref (271 + n) :: st) M) : Z E J D K Q pc k ls st M := by
  intro p e s m args below meth c H locs Ls hF hP hL
  exact va_ldcS hF.1 hF.2.1 hF.own (hF.X.2.2.2.2.2.2.2.2.2.2 i _ hz) hd (k0 p e s m args below meth c H locs Ls hF hP hL)
theorem z_ifnonnull {o : Nat} {off : Int} {tgt : Nat} (hd : decode J.2.1 pc = .ok (.ifnonnull off, 3)) (ht : (pc : Int) + off = (tgt : Int)) (k0 : Z E J D K Q tgt k ls st M) : Z E J D K Q pc k ls (.ref o :: st) M := by
  intro p e s m args below meth c H locs Ls hF hP hL
  exact lv_ifnonnull hF.1 hF.2.1 hd ht (k0 p e s m args below meth c H locs Ls hF hP hL)
end ZD
