/-! ===== Z: a method's contract out of its walk; throws ===== -/
section ZM
variable {E : zEv} {J : zJ} {D K pc k : Nat} {Q Q1 : zO → zM → Prop} {ls st : List Value} {M : zM}
theorem zArgs_in : ∀ (args : List Value) (i j : Nat) (v : Value), (zArgs args)[j]? = some v → v ≠ zU → (i + j, zV E v) ∈ lv_args i (args.map (zV E)) := by
  intro args
  induction args with
  | nil => intro i j v h; simp [zArgs] at h
  | cons a as ih =>
    intro i j v h hv
    simp only [List.map_cons, lv_args]
    rw [zV_cat]
    by_cases hc : a.category = 2
    · simp only [zArgs, if_pos hc] at h ⊢
      match j with
      | 0 => simp at h; subst h; simp
      | 1 => simp at h; exact absurd h.symm hv
      | j + 2 =>
        simp at h
        refine List.mem_cons_of_mem _ ?_
        have := ih (i + 2) j v h hv
        rwa [show i + (j + 2) = i + 2 + j by omega]
    · simp only [zArgs, if_neg hc] at h ⊢
      match j with
      | 0 => simp at h; subst h; simp
      | j + 1 =>
        simp at h
        refine List.mem_cons_of_mem _ ?_
        have := ih (i + 1) j v h hv
        rwa [show i + (j + 1) = i + 1 + j by omega]
theorem zArgs_sl (args : List Value) : (lg_sl (args.map (zV E))).length = (zArgs args).length := by
  induction args with
  | nil => rfl
  | cons a as ih =>
    have e1 : lg_sl (List.map (zV E) (a :: as)) = (if (zV E a).category = 2 then [.val (zV E a), .second] else [.val (zV E a)]) ++ lg_sl (as.map (zV E)) := by simp [lg_sl]
    rw [e1, List.length_append, ih, zV_cat]
    by_cases hc : a.category = 2
    · simp [hc, zArgs]; omega
    · simp [hc, zArgs]; omega
theorem z_meth {args : List Value} (hy : plainName J.1.cls = true) (hlen : (zArgs args).length ≤ J.2.2.1) (h : Z E J D K Q 0 0 (zBeg J.2.2.1 args) [] M) (hnil : J.2.2.2.2 = [] := by rfl) : zC E J D K args M Q := by
  refine vx_ofW (cc := J.2.1) (maxL := J.2.2.1) (ret := J.2.2.2.1) hy rfl ?_
  intro p e s m a below meth c s₁ B hml ht hv
  obtain ⟨rfl, hP, hK, hb, hO, hD, hT⟩ := hv
  have hts := atoms_spec (ws := .code J.1 J.2.1 J.2.2.1 J.2.2.2.1 :: zT) B.pre
  have hl := lv_entry (args.map (zV E)) (n := J.2.2.1) (by rw [zArgs_sl]; exact hlen)
  rw [lg_entry_eq]
  refine h p e s m _ below meth c s.heap [] _ ⟨B.exec, B.bytes, B.returns, hml, findClass_of_methodNamed B.named, B.notSynchronized, (by rw [hnil]; exact List.eq_nil_iff_forall_not_mem.mpr (fun x hx => ht x hx)), ⟨fun w hw => hts w (List.mem_cons_of_mem _ hw), hK, hb, hO⟩, hD, hT⟩ ⟨hP, va_S.rf⟩ ⟨hl.1, ?_, hl.2.1, ?_⟩
  · simp [zBeg]; omega
  · intro i v hi hv
    refine hl.2.2 (i, zV E v) ?_
    have h1 : (zArgs args)[i]? = some v := by
      simp only [zBeg, List.getElem?_append] at hi
      split at hi
      · exact hi
      · rw [List.getElem?_replicate] at hi
        split at hi
        · exact absurd (Option.some.inj hi).symm hv
        · cases hi
    have := zArgs_in (E := E) args 0 i v h1 hv
    rwa [Nat.zero_add] at this
end ZM
section ZX
variable {E : zEv} {J : zJ} {D K pc k : Nat} {Q : zO → zM → Prop} {ls st : List Value} {M : zM}
/-- the pool entries of own by which it throws cls with a literal -/
def zThr (own : String) (ik is ic : Nat) (cls : String) (names : List String) (i : Nat) : Prop := Bundle.fit cls = true ∧ (∀ n ∈ names, Bundle.fit n = true) ∧ names.length ≤ 3 ∧ Cond.classLink own ik cls ∈ zT ∧ Cond.initialized cls ∈ zT ∧ (∀ w ∈ vx_atS own ic cls names, w ∈ zT) ∧
  (∀ w ∈ Cond.classLink own ik cls :: Cond.initialized cls :: vx_atS own ic cls names, vx_ot w = true) ∧ ∃ (tx : String) (n : Nat), zStrs[i]? = some (own, is, tx, n)
theorem z_throw {ik is ic i : Nat} {cls : String} {names : List String} (hz : zThr J.1.cls ik is ic cls names i) (d0 : decode J.2.1 pc = .ok (.new ik, 3)) (d3 : decode J.2.1 (pc + 3) = .ok (.dup, 1)) (d4 : decode J.2.1 (pc + 4) = .ok (.ldc is, 2)) (d6 : decode J.2.1 (pc + 6) = .ok (.invokespecial ic, 3)) (d9 : decode J.2.1 (pc + 9) = .ok (.athrow, 1))
    (hw : (st.map fun v => v.category).sum ≤ 8) (hk : k + 1 ≤ K) (hQ : Q (.inr cls) M) (hnil : J.2.2.2.2 = [] := by rfl) : Z E J D K Q pc k ls st M := by
  intro p e s m args below meth c H locs Ls hF hP hL
  obtain ⟨z1, z2, z3, z4, z5, z6, z7, tx, n, hi⟩ := hz
  have hstr := hF.X.2.2.2.2.2.2.2.2.2.2 i _ hi
  refine vx_throwS (A := zA E) hF.1 hF.2.1 hF.tr hF.own z1 z2 (hF.w z4) (hF.w z5) hstr (fun w hw => hF.w (z6 w hw)) z7 hF.X.2.2.2.1 hF.X.2.2.2.2.1 hP.2 (hL.1.trans hF.2.2.2.1.symm) d0 d3 d4 d6 d9 (fun x hx => (hF.tbl hnil x hx).elim) ?_ ?_ hk ?_ hF.locks ?_ hP.2.2.2 hk ?_
  · show names.length + 3 < D + 8
    omega
  · rw [zmap_cat]
    show _ + (13 * (names.length + 1) + 43) ≤ 64 * D + 128
    omega
  · show 6 * k + 6 ≤ 6 * K
    omega
  · intro t ht h1 h2
    refine ⟨M, hQ, hP.1.kept (fun j q hj => h2 _ ((hP.1 j q hj).lt)), ⟨Nat.le_trans hP.2.1 h1, fun q hq hA => ?_⟩⟩
    rw [h2 q (Nat.lt_of_lt_of_le hq hP.2.1)]
    exact hP.2.2.1 q hq hA
  · omega
theorem z_throwW {ik is ic i : Nat} {cls : String} {names : List String} (hz : zThr J.1.cls ik is ic cls names i) (d0 : decode J.2.1 pc = .ok (.new ik, 3)) (d3 : decode J.2.1 (pc + 3) = .ok (.dup, 1)) (d4 : decode J.2.1 (pc + 4) = .ok (.ldc_w is, 3)) (d7 : decode J.2.1 (pc + 7) = .ok (.invokespecial ic, 3)) (d10 : decode J.2.1 (pc + 10) = .ok (.athrow, 1))
    (hw : (st.map fun v => v.category).sum ≤ 8) (hk : k + 1 ≤ K) (hQ : Q (.inr cls) M) (hnil : J.2.2.2.2 = [] := by rfl) : Z E J D K Q pc k ls st M := by
  intro p e s m args below meth c H locs Ls hF hP hL
  obtain ⟨z1, z2, z3, z4, z5, z6, z7, tx, n, hi⟩ := hz
  have hstr := hF.X.2.2.2.2.2.2.2.2.2.2 i _ hi
  refine vx_throwSW (A := zA E) hF.1 hF.2.1 hF.tr hF.own z1 z2 (hF.w z4) (hF.w z5) hstr (fun w hw => hF.w (z6 w hw)) z7 hF.X.2.2.2.1 hF.X.2.2.2.2.1 hP.2 (hL.1.trans hF.2.2.2.1.symm) d0 d3 d4 d7 d10 (fun x hx => (hF.tbl hnil x hx).elim) ?_ ?_ hk ?_ hF.locks ?_ hP.2.2.2 hk ?_
  · show names.length + 3 < D + 8
    omega
  · rw [zmap_cat]
    show _ + (13 * (names.length + 1) + 43) ≤ 64 * D + 128
    omega
  · show 6 * k + 6 ≤ 6 * K
    omega
  · intro t ht h1 h2
    refine ⟨M, hQ, hP.1.kept (fun j q hj => h2 _ ((hP.1 j q hj).lt)), ⟨Nat.le_trans hP.2.1 h1, fun q hq hA => ?_⟩⟩
    rw [h2 q (Nat.lt_of_lt_of_le hq hP.2.1)]
    exact hP.2.2.1 q hq hA
  · omega
/-- Math.max, Math.min, System.arraycopy -/
def zMath (own : String) (idx : Nat) (y : MethodName) (code : ByteArray) : Prop := Cond.methodLink own idx y ∈ zT ∧ Cond.static y ∈ zT ∧ Cond.initialized "java/lang/Math" ∈ zT ∧ Cond.code y code 2 (some .int) ∈ zT
theorem z_max {idx : Nat} {x y : Int32} (hd : decode J.2.1 pc = .ok (.invokestatic idx, 3)) (hz : zMath J.1.cls idx Lib.Math.max.name Lib.Math.max.code) (hw : (st.map fun v => v.category).sum ≤ 8) (hk : k ≤ K) (k0 : Z E J D K Q (pc + 3) k ls (.int (if x < y then y else x) :: st) M) : Z E J D K Q pc k ls (.int y :: .int x :: st) M := by
  intro p e s m args below meth c H locs Ls hF hP hL
  obtain ⟨z1, z2, z3, z4⟩ := hz
  refine va_mmax hF.1 hF.2.1 (hF.2.2.2.1.trans hL.1.symm) hF.own (hF.w z1) (hF.w z2) (hF.w z3) (hF.w z4) (by show 1 ≤ D + 8; omega) ?_ hk ?_ hd (k0 p e s m args below meth c H locs Ls hF hP hL)
  · rw [zmap_cat]
    show _ + 13 ≤ 64 * D + 128
    omega
  · show 6 * k ≤ 6 * K
    omega
theorem z_min {idx : Nat} {x y : Int32} (hd : decode J.2.1 pc = .ok (.invokestatic idx, 3)) (hz : zMath J.1.cls idx Lib.Math.min.name Lib.Math.min.code) (hw : (st.map fun v => v.category).sum ≤ 8) (hk : k ≤ K) (k0 : Z E J D K Q (pc + 3) k ls (.int (if y < x then y else x) :: st) M) : Z E J D K Q pc k ls (.int y :: .int x :: st) M := by
  intro p e s m args below meth c H locs Ls hF hP hL
  obtain ⟨z1, z2, z3, z4⟩ := hz
  refine va_mmin hF.1 hF.2.1 (hF.2.2.2.1.trans hL.1.symm) hF.own (hF.w z1) (hF.w z2) (hF.w z3) (hF.w z4) (by show 1 ≤ D + 8; omega) ?_ hk ?_ hd (k0 p e s m args below meth c H locs Ls hF hP hL)
  · rw [zmap_cat]
    show _ + 13 ≤ 64 * D + 128
    omega
  · show 6 * k ≤ 6 * K
    omega
def zCop (own : String) (idx : Nat) : Prop := Cond.methodLink own idx arraycopyName ∈ zT ∧ Cond.native arraycopyName ∈ zT ∧ Cond.static arraycopyName ∈ zT ∧ Cond.initialized "java/lang/System" ∈ zT
theorem z_copy {idx os od ns nd : Nat} {sp dp n : Int32} (hd : decode J.2.1 pc = .ok (.invokestatic idx, 3)) (hz : zCop J.1.cls idx) (hs : zShape[os]? = some (.inr (0, ns))) (hsd : zShape[od]? = some (.inr (0, nd))) (h1 : ¬ sp < 0) (h2 : ¬ dp < 0) (h3 : ¬ n < 0) (h4 : sp.toNatClampNeg + n.toNatClampNeg ≤ ns) (h5 : dp.toNatClampNeg + n.toNatClampNeg ≤ nd) (hw : (st.map fun v => v.category).sum ≤ 8)
    (k0 : Z E J D K Q (pc + 3) k ls st (zrow M od (va_cpy (M.1 os) (M.1 od) sp.toNatClampNeg dp.toNatClampNeg n.toNatClampNeg))) : Z E J D K Q pc k ls (.int n :: .int dp :: .ref od :: .int sp :: .ref os :: st) M := by
  intro p e s m args below meth c H locs Ls hF hP hL
  obtain ⟨z1, z2, z3, z4⟩ := hz
  refine va_copyi hF.1 hF.2.1 (hF.2.2.2.1.trans hL.1.symm) hF.own (hF.w z1) (hF.w z2) (hF.w z3) (hF.w z4) hF.kk hP.1 (hF.dj.D M) hP.2 os od 0 0 (zW_arr E M hs) (zW_arr E M hsd) (ty := .int) rfl rfl rfl h1 h2 h3 h4 h5 (fun _ _ => rfl) (by show 1 ≤ D + 8; omega) ?_ hd (fun H1 locs1 g1 g2 g3 => ?_)
  · rw [zmap_cat]
    have hn : nativeFrameWords "java/lang/System" "arraycopy" 5 ≤ 100 := by decide +kernel
    show _ + (_ + 11) ≤ 64 * D + 128
    omega
  · rw [zSet_row hsd (by decide)] at g1
    exact k0 p e s m args below meth c H1 locs1 Ls hF ⟨g1, g3⟩ hL
theorem z_copyL {idx os od ns nd : Nat} {sp dp n : Int32} (hd : decode J.2.1 pc = .ok (.invokestatic idx, 3)) (hz : zCop J.1.cls idx) (hs : zShape[os]? = some (.inr (3, ns))) (hsd : zShape[od]? = some (.inr (3, nd))) (h1 : ¬ sp < 0) (h2 : ¬ dp < 0) (h3 : ¬ n < 0) (h4 : sp.toNatClampNeg + n.toNatClampNeg ≤ ns) (h5 : dp.toNatClampNeg + n.toNatClampNeg ≤ nd) (hw : (st.map fun v => v.category).sum ≤ 8)
    (k0 : Z E J D K Q (pc + 3) k ls st (zrowL M od (va_cpy (M.2 os) (M.2 od) sp.toNatClampNeg dp.toNatClampNeg n.toNatClampNeg))) : Z E J D K Q pc k ls (.int n :: .int dp :: .ref od :: .int sp :: .ref os :: st) M := by
  intro p e s m args below meth c H locs Ls hF hP hL
  obtain ⟨z1, z2, z3, z4⟩ := hz
  refine va_copyl hF.1 hF.2.1 (hF.2.2.2.1.trans hL.1.symm) hF.own (hF.w z1) (hF.w z2) (hF.w z3) (hF.w z4) hF.kk hP.1 (hF.dj.D M) hP.2 os od 3 3 (zW_arr E M hs) (zW_arr E M hsd) (ty := .long) rfl rfl rfl h1 h2 h3 h4 h5 (fun _ _ => rfl) (by show 1 ≤ D + 8; omega) ?_ hd (fun H1 locs1 g1 g2 g3 => ?_)
  · rw [zmap_cat]
    have hn : nativeFrameWords "java/lang/System" "arraycopy" 5 ≤ 100 := by decide +kernel
    show _ + (_ + 11) ≤ 64 * D + 128
    omega
  · rw [zSet_rowL hsd] at g1
    exact k0 p e s m args below meth c H1 locs1 Ls hF ⟨g1, g3⟩ hL
end ZX
