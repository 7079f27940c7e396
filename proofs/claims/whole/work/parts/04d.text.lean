/-! ===== Z: literals, the script ===== -/
section ZW
variable {E : zEv} {J : zJ} {D K pc k : Nat} {Q : zO → zM → Prop} {ls st : List Value} {M : zM} {post : Int32 → zM → Prop} {px : String → zM → Prop}
theorem z_strval {idx w : Nat} (hd : decode J.2.1 pc = .ok (.getfield idx, 3)) (hl : Cond.fieldLink J.1.cls idx "java/lang/String" "value" "[B" ∈ zT) (hw : w < zLitN) (k0 : Z E J D K Q (pc + 3) k ls (.ref (320 + w) :: st) M) : Z E J D K Q pc k ls (.ref (271 + w) :: st) M := by
  intro p e s m args below meth c H locs Ls hF hP hL
  exact vk_getf hF.1 hF.2.1 (hF.X.2.2.2.2.2.2.1.1 w hw).2.2.1 hP.2 hF.own (hF.w hl) (fun x h => h) hd (k0 p e s m args below meth c H locs Ls hF hP hL)
theorem z_strcod {idx w : Nat} (hd : decode J.2.1 pc = .ok (.getfield idx, 3)) (hl : Cond.fieldLink J.1.cls idx "java/lang/String" "coder" "B" ∈ zT) (hw : w < zLitN) (k0 : Z E J D K Q (pc + 3) k ls (.int 0 :: st) M) : Z E J D K Q pc k ls (.ref (271 + w) :: st) M := by
  intro p e s m args below meth c H locs Ls hF hP hL
  exact vk_getf hF.1 hF.2.1 (hF.X.2.2.2.2.2.2.1.1 w hw).2.1 hP.2 hF.own (hF.w hl) (fun x h => h) hd (k0 p e s m args below meth c H locs Ls hF hP hL)
theorem z_strlen {w : Nat} (hd : decode J.2.1 pc = .ok (.arraylength, 1)) (hw : w < zLitN) (k0 : Z E J D K Q (pc + 1) k ls (.int (Int32.ofNat (zLitL.getD w 0)) :: st) M) : Z E J D K Q pc k ls (.ref (320 + w) :: st) M := by
  intro p e s m args below meth c H locs Ls hF hP hL
  exact va_tlen hF.1 hF.2.1 (hF.X.2.2.2.2.2.2.1.1 w hw).2.2.2 hP.2 rfl hd (k0 p e s m args below meth c H locs Ls hF hP hL)
theorem z_strbyte {w : Nat} {i : Int32} (hd : decode J.2.1 pc = .ok (.baload, 1)) (hw : w < zLitN) (hin : vp_in i (zLitL.getD w 0)) (k0 : Z E J D K Q (pc + 1) k ls (.int ((zLitB.getD w []).getD i.toNatClampNeg 0) :: st) M) : Z E J D K Q pc k ls (.int i :: .ref (320 + w) :: st) M := by
  intro p e s m args below meth c H locs Ls hF hP hL
  exact va_tb hF.1 hF.2.1 (hF.X.2.2.2.2.2.2.1.1 w hw).2.2.2 hP.2 hin rfl hd (k0 p e s m args below meth c H locs Ls hF hP hL)
theorem z_getCS {idx : Nat} (hd : decode J.2.1 pc = .ok (.getstatic idx, 3)) (hl : Cond.fieldLink J.1.cls idx "java/lang/String" "COMPACT_STRINGS" "Z" ∈ zT) (k0 : Z E J D K Q (pc + 3) k ls (.int 1 :: st) M) : Z E J D K Q pc k ls st M := by
  intro p e s m args below meth c H locs Ls hF hP hL
  exact va_gets hF.1 hF.2.1 hF.X.2.2.2.2.2.1 hP.2 hF.own (hF.w hl) (fun x h => h) hd (k0 p e s m args below meth c H locs Ls hF hP hL)
theorem z_getFm {idx : Nat} (hd : decode J.2.1 pc = .ok (.getstatic idx, 3)) (hl : Cond.fieldLink J.1.cls idx "jdk/internal/util/Preconditions" "SIOOBE_FORMATTER" "Ljava/util/function/BiFunction;" ∈ zT) (k0 : Z E J D K Q (pc + 3) k ls (.null :: st) M) (k1 : Z E J D K Q (pc + 3) k ls (.ref 401 :: st) M) : Z E J D K Q pc k ls st M := by
  intro p e s m args below meth c H locs Ls hF hP hL
  rcases hF.X.2.2.2.2.2.2.2.1 with hZ | hZ
  · exact va_gets hF.1 hF.2.1 hZ hP.2 hF.own (hF.w hl) (fun x h => h) hd (k0 p e s m args below meth c H locs Ls hF hP hL)
  · exact va_gets hF.1 hF.2.1 hZ hP.2 hF.own (hF.w hl) (fun x h => h) hd (k1 p e s m args below meth c H locs Ls hF hP hL)
theorem z_sld {i : Int32} (hd : decode J.2.1 pc = .ok (.iaload, 1)) (hin : vp_in i (zLn E)) (k0 : Z E J D K Q (pc + 1) k ls (.int (zxs E i.toNatClampNeg) :: st) M) : Z E J D K Q pc k ls (.int i :: .ref 400 :: st) M := by
  intro p e s m args below meth c H locs Ls hF hP hL
  have h := hF.X.2.2.2.2.2.2.2.2.1
  exact va_sld hF.1 hF.2.1 h.1 (zX_lt h.1) h.2 hP.2 hin hd (k0 p e s m args below meth c H locs Ls hF hP hL)
theorem z_slen (hd : decode J.2.1 pc = .ok (.arraylength, 1)) (k0 : Z E J D K Q (pc + 1) k ls (.int (Int32.ofNat (zLn E)) :: st) M) : Z E J D K Q pc k ls (.ref 400 :: st) M := by
  intro p e s m args below meth c H locs Ls hF hP hL
  have h := hF.X.2.2.2.2.2.2.2.2.1
  exact va_slen hF.1 hF.2.1 h.1 (zX_lt h.1) h.2 hP.2 hd (k0 p e s m args below meth c H locs Ls hF hP hL)
end ZW
