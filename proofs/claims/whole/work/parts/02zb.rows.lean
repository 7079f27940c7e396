/-! ===== Z: a row an instruction ===== -/
section ZR
variable {E : zEv} {J : zJ} {D K pc k : Nat} {Q : zO → zM → Prop} {ls st : List Value} {M : zM}
theorem z_iconst {n : Int} {v : Int32} (hd : decode J.2.1 pc = .ok (.iconst n, 1)) (hv : Int32.ofInt n = v) (k0 : Z E J D K Q (pc + 1) k ls (.int v :: st) M) : Z E J D K Q pc k ls (st) M := by
  intro p e s m args below meth c H locs Ls hF hP hL
  exact lv_iconst hF.1 hF.2.1 hd hv (k0 p e s m args below meth c H locs Ls hF hP hL)
theorem z_bipush {n : Int} {v : Int32} (hd : decode J.2.1 pc = .ok (.bipush n, 2)) (hv : (Int8.ofInt n).toInt32 = v) (k0 : Z E J D K Q (pc + 2) k ls (.int v :: st) M) : Z E J D K Q pc k ls (st) M := by
  intro p e s m args below meth c H locs Ls hF hP hL
  exact lv_bipush hF.1 hF.2.1 hd hv (k0 p e s m args below meth c H locs Ls hF hP hL)
theorem z_sipush {n : Int} {v : Int32} (hd : decode J.2.1 pc = .ok (.sipush n, 3)) (hv : (Int16.ofInt n).toInt32 = v) (k0 : Z E J D K Q (pc + 3) k ls (.int v :: st) M) : Z E J D K Q pc k ls (st) M := by
  intro p e s m args below meth c H locs Ls hF hP hL
  exact lv_sipush hF.1 hF.2.1 hd hv (k0 p e s m args below meth c H locs Ls hF hP hL)
theorem z_lconst {n : Fin 2} {v : Int64} (hd : decode J.2.1 pc = .ok (.lconst n, 1)) (hv : Int64.ofNat (n : Nat) = v) (k0 : Z E J D K Q (pc + 1) k ls (.long v :: st) M) : Z E J D K Q pc k ls (st) M := by
  intro p e s m args below meth c H locs Ls hF hP hL
  exact lv_lconst hF.1 hF.2.1 hd hv (k0 p e s m args below meth c H locs Ls hF hP hL)
theorem z_iadd {x y : Int32} (hd : decode J.2.1 pc = .ok (.iadd, 1))  (k0 : Z E J D K Q (pc + 1) k ls (.int (x + y) :: st) M) : Z E J D K Q pc k ls (.int y :: .int x :: st) M := by
  intro p e s m args below meth c H locs Ls hF hP hL
  exact lv_iadd hF.1 hF.2.1 hd  (k0 p e s m args below meth c H locs Ls hF hP hL)
theorem z_isub {x y : Int32} (hd : decode J.2.1 pc = .ok (.isub, 1))  (k0 : Z E J D K Q (pc + 1) k ls (.int (x - y) :: st) M) : Z E J D K Q pc k ls (.int y :: .int x :: st) M := by
  intro p e s m args below meth c H locs Ls hF hP hL
  exact lv_isub hF.1 hF.2.1 hd  (k0 p e s m args below meth c H locs Ls hF hP hL)
theorem z_imul {x y : Int32} (hd : decode J.2.1 pc = .ok (.imul, 1))  (k0 : Z E J D K Q (pc + 1) k ls (.int (x * y) :: st) M) : Z E J D K Q pc k ls (.int y :: .int x :: st) M := by
  intro p e s m args below meth c H locs Ls hF hP hL
  exact lv_imul hF.1 hF.2.1 hd  (k0 p e s m args below meth c H locs Ls hF hP hL)
theorem z_iand {x y : Int32} (hd : decode J.2.1 pc = .ok (.iand, 1))  (k0 : Z E J D K Q (pc + 1) k ls (.int (x &&& y) :: st) M) : Z E J D K Q pc k ls (.int y :: .int x :: st) M := by
  intro p e s m args below meth c H locs Ls hF hP hL
  exact lv_iand hF.1 hF.2.1 hd  (k0 p e s m args below meth c H locs Ls hF hP hL)
theorem z_ior {x y : Int32} (hd : decode J.2.1 pc = .ok (.ior, 1))  (k0 : Z E J D K Q (pc + 1) k ls (.int (x ||| y) :: st) M) : Z E J D K Q pc k ls (.int y :: .int x :: st) M := by
  intro p e s m args below meth c H locs Ls hF hP hL
  exact lv_ior hF.1 hF.2.1 hd  (k0 p e s m args below meth c H locs Ls hF hP hL)
theorem z_ixor {x y : Int32} (hd : decode J.2.1 pc = .ok (.ixor, 1))  (k0 : Z E J D K Q (pc + 1) k ls (.int (x ^^^ y) :: st) M) : Z E J D K Q pc k ls (.int y :: .int x :: st) M := by
  intro p e s m args below meth c H locs Ls hF hP hL
  exact lv_ixor hF.1 hF.2.1 hd  (k0 p e s m args below meth c H locs Ls hF hP hL)
theorem z_idiv {x y : Int32} (hd : decode J.2.1 pc = .ok (.idiv, 1)) (hne : ¬ y = 0) (k0 : Z E J D K Q (pc + 1) k ls (.int (x / y) :: st) M) : Z E J D K Q pc k ls (.int y :: .int x :: st) M := by
  intro p e s m args below meth c H locs Ls hF hP hL
  exact lv_idiv hF.1 hF.2.1 hd hne (k0 p e s m args below meth c H locs Ls hF hP hL)
theorem z_irem {x y : Int32} (hd : decode J.2.1 pc = .ok (.irem, 1)) (hne : ¬ y = 0) (k0 : Z E J D K Q (pc + 1) k ls (.int (x - x / y * y) :: st) M) : Z E J D K Q pc k ls (.int y :: .int x :: st) M := by
  intro p e s m args below meth c H locs Ls hF hP hL
  exact lv_irem hF.1 hF.2.1 hd hne (k0 p e s m args below meth c H locs Ls hF hP hL)
theorem z_ineg {x : Int32} (hd : decode J.2.1 pc = .ok (.ineg, 1))  (k0 : Z E J D K Q (pc + 1) k ls (.int (-x) :: st) M) : Z E J D K Q pc k ls (.int x :: st) M := by
  intro p e s m args below meth c H locs Ls hF hP hL
  exact lv_ineg hF.1 hF.2.1 hd  (k0 p e s m args below meth c H locs Ls hF hP hL)
theorem z_ladd {x y : Int64} (hd : decode J.2.1 pc = .ok (.ladd, 1))  (k0 : Z E J D K Q (pc + 1) k ls (.long (x + y) :: st) M) : Z E J D K Q pc k ls (.long y :: .long x :: st) M := by
  intro p e s m args below meth c H locs Ls hF hP hL
  exact lv_ladd hF.1 hF.2.1 hd  (k0 p e s m args below meth c H locs Ls hF hP hL)
theorem z_lsub {x y : Int64} (hd : decode J.2.1 pc = .ok (.lsub, 1))  (k0 : Z E J D K Q (pc + 1) k ls (.long (x - y) :: st) M) : Z E J D K Q pc k ls (.long y :: .long x :: st) M := by
  intro p e s m args below meth c H locs Ls hF hP hL
  exact lv_lsub hF.1 hF.2.1 hd  (k0 p e s m args below meth c H locs Ls hF hP hL)
theorem z_lmul {x y : Int64} (hd : decode J.2.1 pc = .ok (.lmul, 1))  (k0 : Z E J D K Q (pc + 1) k ls (.long (x * y) :: st) M) : Z E J D K Q pc k ls (.long y :: .long x :: st) M := by
  intro p e s m args below meth c H locs Ls hF hP hL
  exact lv_lmul hF.1 hF.2.1 hd  (k0 p e s m args below meth c H locs Ls hF hP hL)
theorem z_land {x y : Int64} (hd : decode J.2.1 pc = .ok (.land, 1))  (k0 : Z E J D K Q (pc + 1) k ls (.long (x &&& y) :: st) M) : Z E J D K Q pc k ls (.long y :: .long x :: st) M := by
  intro p e s m args below meth c H locs Ls hF hP hL
  exact lv_land hF.1 hF.2.1 hd  (k0 p e s m args below meth c H locs Ls hF hP hL)
theorem z_lor {x y : Int64} (hd : decode J.2.1 pc = .ok (.lor, 1))  (k0 : Z E J D K Q (pc + 1) k ls (.long (x ||| y) :: st) M) : Z E J D K Q pc k ls (.long y :: .long x :: st) M := by
  intro p e s m args below meth c H locs Ls hF hP hL
  exact lv_lor hF.1 hF.2.1 hd  (k0 p e s m args below meth c H locs Ls hF hP hL)
theorem z_ldiv {x y : Int64} (hd : decode J.2.1 pc = .ok (.ldiv, 1)) (hne : ¬ y = 0) (k0 : Z E J D K Q (pc + 1) k ls (.long (x / y) :: st) M) : Z E J D K Q pc k ls (.long y :: .long x :: st) M := by
  intro p e s m args below meth c H locs Ls hF hP hL
  exact lv_ldiv hF.1 hF.2.1 hd hne (k0 p e s m args below meth c H locs Ls hF hP hL)
theorem z_ishl {x y : Int32} (hd : decode J.2.1 pc = .ok (.ishl, 1))  (k0 : Z E J D K Q (pc + 1) k ls (.int (x <<< (y &&& 31)) :: st) M) : Z E J D K Q pc k ls (.int y :: .int x :: st) M := by
  intro p e s m args below meth c H locs Ls hF hP hL
  exact lv_ishl hF.1 hF.2.1 hd  (k0 p e s m args below meth c H locs Ls hF hP hL)
theorem z_ishr {x y : Int32} (hd : decode J.2.1 pc = .ok (.ishr, 1))  (k0 : Z E J D K Q (pc + 1) k ls (.int (x >>> (y &&& 31)) :: st) M) : Z E J D K Q pc k ls (.int y :: .int x :: st) M := by
  intro p e s m args below meth c H locs Ls hF hP hL
  exact lv_ishr hF.1 hF.2.1 hd  (k0 p e s m args below meth c H locs Ls hF hP hL)
theorem z_iushr {x y v : Int32} (hd : decode J.2.1 pc = .ok (.iushr, 1)) (hv : (x.toUInt32 >>> (y.toUInt32 &&& Int32.toUInt32 31)).toInt32 = v) (k0 : Z E J D K Q (pc + 1) k ls (.int v :: st) M) : Z E J D K Q pc k ls (.int y :: .int x :: st) M := by
  intro p e s m args below meth c H locs Ls hF hP hL
  exact lv_iushr hF.1 hF.2.1 hd hv (k0 p e s m args below meth c H locs Ls hF hP hL)
theorem z_lushr {x v : Int64} {y : Int32} (hd : decode J.2.1 pc = .ok (.lushr, 1)) (hv : (x.toUInt64 >>> (y.toInt64.toUInt64 &&& Int64.toUInt64 63)).toInt64 = v) (k0 : Z E J D K Q (pc + 1) k ls (.long v :: st) M) : Z E J D K Q pc k ls (.int y :: .long x :: st) M := by
  intro p e s m args below meth c H locs Ls hF hP hL
  exact lv_lushr hF.1 hF.2.1 hd hv (k0 p e s m args below meth c H locs Ls hF hP hL)
theorem z_lshl {x v : Int64} {y : Int32} (hd : decode J.2.1 pc = .ok (.lshl, 1)) (hv : x <<< (y.toInt64 &&& 63) = v) (k0 : Z E J D K Q (pc + 1) k ls (.long v :: st) M) : Z E J D K Q pc k ls (.int y :: .long x :: st) M := by
  intro p e s m args below meth c H locs Ls hF hP hL
  exact lv_lshl hF.1 hF.2.1 hd hv (k0 p e s m args below meth c H locs Ls hF hP hL)
theorem z_lshr {x v : Int64} {y : Int32} (hd : decode J.2.1 pc = .ok (.lshr, 1)) (hv : x >>> (y.toInt64 &&& 63) = v) (k0 : Z E J D K Q (pc + 1) k ls (.long v :: st) M) : Z E J D K Q pc k ls (.int y :: .long x :: st) M := by
  intro p e s m args below meth c H locs Ls hF hP hL
  exact lv_lshr hF.1 hF.2.1 hd hv (k0 p e s m args below meth c H locs Ls hF hP hL)
theorem z_i2l {x : Int32} {v : Int64} (hd : decode J.2.1 pc = .ok (.i2l, 1)) (hv : x.toInt64 = v) (k0 : Z E J D K Q (pc + 1) k ls (.long v :: st) M) : Z E J D K Q pc k ls (.int x :: st) M := by
  intro p e s m args below meth c H locs Ls hF hP hL
  exact lv_i2l hF.1 hF.2.1 hd hv (k0 p e s m args below meth c H locs Ls hF hP hL)
theorem z_l2i {x : Int64} {v : Int32} (hd : decode J.2.1 pc = .ok (.l2i, 1)) (hv : x.toInt32 = v) (k0 : Z E J D K Q (pc + 1) k ls (.int v :: st) M) : Z E J D K Q pc k ls (.long x :: st) M := by
  intro p e s m args below meth c H locs Ls hF hP hL
  exact lv_l2i hF.1 hF.2.1 hd hv (k0 p e s m args below meth c H locs Ls hF hP hL)
theorem z_i2b {x v : Int32} (hd : decode J.2.1 pc = .ok (.i2b, 1)) (hv : x.toInt8.toInt32 = v) (k0 : Z E J D K Q (pc + 1) k ls (.int v :: st) M) : Z E J D K Q pc k ls (.int x :: st) M := by
  intro p e s m args below meth c H locs Ls hF hP hL
  exact lv_i2b hF.1 hF.2.1 hd hv (k0 p e s m args below meth c H locs Ls hF hP hL)
theorem z_i2c {x v : Int32} (hd : decode J.2.1 pc = .ok (.i2c, 1)) (hv : (x.toUInt32 % 65536).toInt32 = v) (k0 : Z E J D K Q (pc + 1) k ls (.int v :: st) M) : Z E J D K Q pc k ls (.int x :: st) M := by
  intro p e s m args below meth c H locs Ls hF hP hL
  exact lv_i2c hF.1 hF.2.1 hd hv (k0 p e s m args below meth c H locs Ls hF hP hL)
theorem z_lcmp {x y : Int64} (hd : decode J.2.1 pc = .ok (.lcmp, 1))  (k0 : Z E J D K Q (pc + 1) k ls (.int (lg_cmp x y) :: st) M) : Z E J D K Q pc k ls (.long y :: .long x :: st) M := by
  intro p e s m args below meth c H locs Ls hF hP hL
  exact W.lcmp hF.1 hF.2.1 hd  (k0 p e s m args below meth c H locs Ls hF hP hL)
theorem z_dup {v : Value} (hd : decode J.2.1 pc = .ok (.dup, 1)) (hc : v.category = 1) (k0 : Z E J D K Q (pc + 1) k ls (v :: v :: st) M) : Z E J D K Q pc k ls (v :: st) M := by
  intro p e s m args below meth c H locs Ls hF hP hL
  exact lv_dup hF.1 hF.2.1 hd (by rw [zV_cat]; exact hc) (k0 p e s m args below meth c H locs Ls hF hP hL)
theorem z_pop {v : Value} (hd : decode J.2.1 pc = .ok (.pop, 1)) (hc : v.category = 1) (k0 : Z E J D K Q (pc + 1) k ls (st) M) : Z E J D K Q pc k ls (v :: st) M := by
  intro p e s m args below meth c H locs Ls hF hP hL
  exact lv_pop hF.1 hF.2.1 hd (by rw [zV_cat]; exact hc) (k0 p e s m args below meth c H locs Ls hF hP hL)
theorem z_dup2 {v w : Value} (hd : decode J.2.1 pc = .ok (.dup2, 1)) (hc : v.category = 1) (hc2 : w.category = 1) (k0 : Z E J D K Q (pc + 1) k ls (v :: w :: v :: w :: st) M) : Z E J D K Q pc k ls (v :: w :: st) M := by
  intro p e s m args below meth c H locs Ls hF hP hL
  exact lv_dup2_11 hF.1 hF.2.1 hd (by rw [zV_cat]; exact hc) (by rw [zV_cat]; exact hc2) (k0 p e s m args below meth c H locs Ls hF hP hL)
theorem z_iload_n {q : Fin 4} {x : Int32} (hd : decode J.2.1 pc = .ok (.iload_n q, 1)) (hl : ls[(q : Nat)]? = some (.int x)) (k0 : Z E J D K Q (pc + 1) k ls (.int x :: st) M) : Z E J D K Q pc k ls st M := by
  intro p e s m args below meth c H locs Ls hF hP hL
  exact lv_iload_n hF.1 hF.2.1 hd rfl (hL.2.2.2 _ _ hl (by intro h; cases h)) (k0 p e s m args below meth c H locs Ls hF hP hL)
theorem z_iload {i : Nat} {x : Int32} (hd : decode J.2.1 pc = .ok (.iload i, 2)) (hl : ls[i]? = some (.int x)) (k0 : Z E J D K Q (pc + 2) k ls (.int x :: st) M) : Z E J D K Q pc k ls st M := by
  intro p e s m args below meth c H locs Ls hF hP hL
  exact lv_iload hF.1 hF.2.1 hd (hL.2.2.2 _ _ hl (by intro h; cases h)) (k0 p e s m args below meth c H locs Ls hF hP hL)
theorem z_lload_n {q : Fin 4} {x : Int64} (hd : decode J.2.1 pc = .ok (.lload_n q, 1)) (hl : ls[(q : Nat)]? = some (.long x)) (k0 : Z E J D K Q (pc + 1) k ls (.long x :: st) M) : Z E J D K Q pc k ls st M := by
  intro p e s m args below meth c H locs Ls hF hP hL
  exact lv_lload_n hF.1 hF.2.1 hd rfl (hL.2.2.2 _ _ hl (by intro h; cases h)) (k0 p e s m args below meth c H locs Ls hF hP hL)
theorem z_lload {i : Nat} {x : Int64} (hd : decode J.2.1 pc = .ok (.lload i, 2)) (hl : ls[i]? = some (.long x)) (k0 : Z E J D K Q (pc + 2) k ls (.long x :: st) M) : Z E J D K Q pc k ls st M := by
  intro p e s m args below meth c H locs Ls hF hP hL
  exact lv_lload hF.1 hF.2.1 hd (hL.2.2.2 _ _ hl (by intro h; cases h)) (k0 p e s m args below meth c H locs Ls hF hP hL)
theorem z_aload_n {q : Fin 4} {x : Nat} (hd : decode J.2.1 pc = .ok (.aload_n q, 1)) (hl : ls[(q : Nat)]? = some (.ref x)) (k0 : Z E J D K Q (pc + 1) k ls (.ref x :: st) M) : Z E J D K Q pc k ls st M := by
  intro p e s m args below meth c H locs Ls hF hP hL
  exact lv_aload_n hF.1 hF.2.1 hd rfl (hL.2.2.2 _ _ hl (by intro h; cases h)) (k0 p e s m args below meth c H locs Ls hF hP hL)
theorem z_aload {i : Nat} {x : Nat} (hd : decode J.2.1 pc = .ok (.aload i, 2)) (hl : ls[i]? = some (.ref x)) (k0 : Z E J D K Q (pc + 2) k ls (.ref x :: st) M) : Z E J D K Q pc k ls st M := by
  intro p e s m args below meth c H locs Ls hF hP hL
  exact lv_aload hF.1 hF.2.1 hd (hL.2.2.2 _ _ hl (by intro h; cases h)) (k0 p e s m args below meth c H locs Ls hF hP hL)
theorem z_goto {off : Int} {tgt : Nat} (hd : decode J.2.1 pc = .ok (.goto off, 3)) (ht : (pc : Int) + off = (tgt : Int)) (k0 : Z E J D K Q tgt k ls st M) : Z E J D K Q pc k ls st M := by
  intro p e s m args below meth c H locs Ls hF hP hL
  exact lv_goto hF.1 hF.2.1 hd ht (k0 p e s m args below meth c H locs Ls hF hP hL)
theorem z_if_eq {x : Int32} {off : Int} {tgt : Nat} (hd : decode J.2.1 pc = .ok (.ifCond .eq off, 3)) (ht : (pc : Int) + off = (tgt : Int)) (kt : x = 0 → Z E J D K Q tgt k ls st M) (kf : ¬ x = 0 → Z E J D K Q (pc + 3) k ls st M) : Z E J D K Q pc k ls (.int x :: st) M := by
  intro p e s m args below meth c H locs Ls hF hP hL
  exact lv_if_eq hF.1 hF.2.1 hd ht (fun h => kt h p e s m args below meth c H locs Ls hF hP hL) (fun h => kf h p e s m args below meth c H locs Ls hF hP hL)
theorem z_icmp_eq {x y : Int32} {off : Int} {tgt : Nat} (hd : decode J.2.1 pc = .ok (.if_icmp .eq off, 3)) (ht : (pc : Int) + off = (tgt : Int)) (kt : x = y → Z E J D K Q tgt k ls st M) (kf : ¬ x = y → Z E J D K Q (pc + 3) k ls st M) : Z E J D K Q pc k ls (.int y :: .int x :: st) M := by
  intro p e s m args below meth c H locs Ls hF hP hL
  exact lv_icmp_eq hF.1 hF.2.1 hd ht (fun h => kt h p e s m args below meth c H locs Ls hF hP hL) (fun h => kf h p e s m args below meth c H locs Ls hF hP hL)
theorem z_if_ne {x : Int32} {off : Int} {tgt : Nat} (hd : decode J.2.1 pc = .ok (.ifCond .ne off, 3)) (ht : (pc : Int) + off = (tgt : Int)) (kt : ¬ x = 0 → Z E J D K Q tgt k ls st M) (kf : x = 0 → Z E J D K Q (pc + 3) k ls st M) : Z E J D K Q pc k ls (.int x :: st) M := by
  intro p e s m args below meth c H locs Ls hF hP hL
  exact lv_if_ne hF.1 hF.2.1 hd ht (fun h => kt h p e s m args below meth c H locs Ls hF hP hL) (fun h => kf h p e s m args below meth c H locs Ls hF hP hL)
theorem z_icmp_ne {x y : Int32} {off : Int} {tgt : Nat} (hd : decode J.2.1 pc = .ok (.if_icmp .ne off, 3)) (ht : (pc : Int) + off = (tgt : Int)) (kt : ¬ x = y → Z E J D K Q tgt k ls st M) (kf : x = y → Z E J D K Q (pc + 3) k ls st M) : Z E J D K Q pc k ls (.int y :: .int x :: st) M := by
  intro p e s m args below meth c H locs Ls hF hP hL
  exact lv_icmp_ne hF.1 hF.2.1 hd ht (fun h => kt h p e s m args below meth c H locs Ls hF hP hL) (fun h => kf h p e s m args below meth c H locs Ls hF hP hL)
theorem z_if_lt {x : Int32} {off : Int} {tgt : Nat} (hd : decode J.2.1 pc = .ok (.ifCond .lt off, 3)) (ht : (pc : Int) + off = (tgt : Int)) (kt : x < 0 → Z E J D K Q tgt k ls st M) (kf : ¬ x < 0 → Z E J D K Q (pc + 3) k ls st M) : Z E J D K Q pc k ls (.int x :: st) M := by
  intro p e s m args below meth c H locs Ls hF hP hL
  exact lv_if_lt hF.1 hF.2.1 hd ht (fun h => kt h p e s m args below meth c H locs Ls hF hP hL) (fun h => kf h p e s m args below meth c H locs Ls hF hP hL)
theorem z_icmp_lt {x y : Int32} {off : Int} {tgt : Nat} (hd : decode J.2.1 pc = .ok (.if_icmp .lt off, 3)) (ht : (pc : Int) + off = (tgt : Int)) (kt : x < y → Z E J D K Q tgt k ls st M) (kf : ¬ x < y → Z E J D K Q (pc + 3) k ls st M) : Z E J D K Q pc k ls (.int y :: .int x :: st) M := by
  intro p e s m args below meth c H locs Ls hF hP hL
  exact lv_icmp_lt hF.1 hF.2.1 hd ht (fun h => kt h p e s m args below meth c H locs Ls hF hP hL) (fun h => kf h p e s m args below meth c H locs Ls hF hP hL)
theorem z_if_ge {x : Int32} {off : Int} {tgt : Nat} (hd : decode J.2.1 pc = .ok (.ifCond .ge off, 3)) (ht : (pc : Int) + off = (tgt : Int)) (kt : 0 ≤ x → Z E J D K Q tgt k ls st M) (kf : ¬ 0 ≤ x → Z E J D K Q (pc + 3) k ls st M) : Z E J D K Q pc k ls (.int x :: st) M := by
  intro p e s m args below meth c H locs Ls hF hP hL
  exact lv_if_ge hF.1 hF.2.1 hd ht (fun h => kt h p e s m args below meth c H locs Ls hF hP hL) (fun h => kf h p e s m args below meth c H locs Ls hF hP hL)
theorem z_icmp_ge {x y : Int32} {off : Int} {tgt : Nat} (hd : decode J.2.1 pc = .ok (.if_icmp .ge off, 3)) (ht : (pc : Int) + off = (tgt : Int)) (kt : y ≤ x → Z E J D K Q tgt k ls st M) (kf : ¬ y ≤ x → Z E J D K Q (pc + 3) k ls st M) : Z E J D K Q pc k ls (.int y :: .int x :: st) M := by
  intro p e s m args below meth c H locs Ls hF hP hL
  exact lv_icmp_ge hF.1 hF.2.1 hd ht (fun h => kt h p e s m args below meth c H locs Ls hF hP hL) (fun h => kf h p e s m args below meth c H locs Ls hF hP hL)
theorem z_if_gt {x : Int32} {off : Int} {tgt : Nat} (hd : decode J.2.1 pc = .ok (.ifCond .gt off, 3)) (ht : (pc : Int) + off = (tgt : Int)) (kt : 0 < x → Z E J D K Q tgt k ls st M) (kf : ¬ 0 < x → Z E J D K Q (pc + 3) k ls st M) : Z E J D K Q pc k ls (.int x :: st) M := by
  intro p e s m args below meth c H locs Ls hF hP hL
  exact lv_if_gt hF.1 hF.2.1 hd ht (fun h => kt h p e s m args below meth c H locs Ls hF hP hL) (fun h => kf h p e s m args below meth c H locs Ls hF hP hL)
theorem z_icmp_gt {x y : Int32} {off : Int} {tgt : Nat} (hd : decode J.2.1 pc = .ok (.if_icmp .gt off, 3)) (ht : (pc : Int) + off = (tgt : Int)) (kt : y < x → Z E J D K Q tgt k ls st M) (kf : ¬ y < x → Z E J D K Q (pc + 3) k ls st M) : Z E J D K Q pc k ls (.int y :: .int x :: st) M := by
  intro p e s m args below meth c H locs Ls hF hP hL
  exact lv_icmp_gt hF.1 hF.2.1 hd ht (fun h => kt h p e s m args below meth c H locs Ls hF hP hL) (fun h => kf h p e s m args below meth c H locs Ls hF hP hL)
theorem z_if_le {x : Int32} {off : Int} {tgt : Nat} (hd : decode J.2.1 pc = .ok (.ifCond .le off, 3)) (ht : (pc : Int) + off = (tgt : Int)) (kt : x ≤ 0 → Z E J D K Q tgt k ls st M) (kf : ¬ x ≤ 0 → Z E J D K Q (pc + 3) k ls st M) : Z E J D K Q pc k ls (.int x :: st) M := by
  intro p e s m args below meth c H locs Ls hF hP hL
  exact lv_if_le hF.1 hF.2.1 hd ht (fun h => kt h p e s m args below meth c H locs Ls hF hP hL) (fun h => kf h p e s m args below meth c H locs Ls hF hP hL)
theorem z_icmp_le {x y : Int32} {off : Int} {tgt : Nat} (hd : decode J.2.1 pc = .ok (.if_icmp .le off, 3)) (ht : (pc : Int) + off = (tgt : Int)) (kt : x ≤ y → Z E J D K Q tgt k ls st M) (kf : ¬ x ≤ y → Z E J D K Q (pc + 3) k ls st M) : Z E J D K Q pc k ls (.int y :: .int x :: st) M := by
  intro p e s m args below meth c H locs Ls hF hP hL
  exact lv_icmp_le hF.1 hF.2.1 hd ht (fun h => kt h p e s m args below meth c H locs Ls hF hP hL) (fun h => kf h p e s m args below meth c H locs Ls hF hP hL)
theorem z_tableOut {dflt lo hi : Int} {offs : Array Int} {len : Nat} {x : Int32} {tgt : Nat} (hd : decode J.2.1 pc = .ok (.tableswitch dflt lo hi offs, len)) (h : x.toInt < lo ∨ hi < x.toInt) (ht : (pc : Int) + dflt = (tgt : Int)) (k0 : Z E J D K Q tgt k ls st M) : Z E J D K Q pc k ls (.int x :: st) M := by
  intro p e s m args below meth c H locs Ls hF hP hL
  exact lv_tableOut hF.1 hF.2.1 hd h ht (k0 p e s m args below meth c H locs Ls hF hP hL)
theorem z_tableIn {dflt lo hi : Int} {offs : Array Int} {len : Nat} {x : Int32} {off : Int} {tgt : Nat} (hd : decode J.2.1 pc = .ok (.tableswitch dflt lo hi offs, len)) (h1 : ¬ x.toInt < lo) (h2 : ¬ hi < x.toInt) (ho : offs[(x.toInt - lo).toNat]? = some off) (ht : (pc : Int) + off = (tgt : Int)) (k0 : Z E J D K Q tgt k ls st M) : Z E J D K Q pc k ls (.int x :: st) M := by
  intro p e s m args below meth c H locs Ls hF hP hL
  exact lv_tableIn hF.1 hF.2.1 hd h1 h2 ho ht (k0 p e s m args below meth c H locs Ls hF hP hL)
end ZR
