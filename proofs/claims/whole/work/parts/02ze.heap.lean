/-! ===== Z: fields, arrays, returns ===== -/
section ZH
variable {E : zEv} {J : zJ} {D K pc k : Nat} {Q : zO → zM → Prop} {ls ls' st : List Value} {M : zM}
variable {p : Program} {s : State} {m : MethodId} {args : Array Value} {meth : Method} {c : Code}
theorem zF.own (h : zF E J p s m args meth c) : s.vm.findClass J.1.cls = some m.cls := h.2.2.2.2.1
theorem zF.locks (h : zF E J p s m args meth c) : meth.locks = false := h.2.2.2.2.2.1
theorem zF.tb (h : zF E J p s m args meth c) : c.exceptionTable.toList = tableOf J.2.2.2.2 := h.2.2.2.2.2.2.1
theorem zF.tbl (h : zF E J p s m args meth c) (hn : J.2.2.2.2 = []) : ∀ x ∈ c.exceptionTable.toList, False := by
  intro x hx
  rw [h.tb, hn] at hx
  cases hx
theorem zF.X (h : zF E J p s m args meth c) : zX E args s := h.2.2.2.2.2.2.2.1
theorem zF.dj (h : zF E J p s m args meth c) : zDj E := h.2.2.2.2.2.2.2.2.1
theorem zF.tr (h : zF E J p s m args meth c) : (zl E).stackTraces = false := h.2.2.2.2.2.2.2.2.2
theorem zF.w (h : zF E J p s m args meth c) {w : Cond} (hw : w ∈ zT) : w.before args s = true := h.X.1 w hw
theorem zF.kk (h : zF E J p s m args meth c) : va_K (zD E) vwCl (zts E) s := h.X.2.1
/-- entry idx of own's pool is field j of class ci -/
def zGet (own : String) (idx ci j : Nat) : Prop := ∃ (C : String) (T : u_T) (N : Nat), vwCl[ci]? = some (C, T, N) ∧ j < N ∧ (∀ w ∈ u_ws C T N, w ∈ zT) ∧
  (Cond.fieldLink own idx (T j).1 (T j).2.1 (T j).2.2.1 ∈ zT ∨ ∃ host, Cond.fieldLinkNest own idx (T j).1 (T j).2.1 (T j).2.2.1 host ∈ zT)
def zPut (own : String) (idx ci j : Nat) (ty : FieldType) : Prop := ∃ (C : String) (T : u_T) (N : Nat) (ty0 : Nat → FieldType), vwCl[ci]? = some (C, T, N) ∧ j < N ∧ (∀ w ∈ u_ws C T N, w ∈ zT) ∧
  (Cond.fieldLink own idx (T j).1 (T j).2.1 (T j).2.2.1 ∈ zT ∨ ∃ host, Cond.fieldLinkNest own idx (T j).1 (T j).2.1 (T j).2.2.1 host ∈ zT) ∧
  (∀ k, k < N → parseFieldDescriptor (T k).2.2.1 = some (ty0 k)) ∧ (∀ a, a < N → ∀ b, b < N → a ≠ b → (T a).2.1 ≠ (T b).2.1) ∧ (T j).2.2.2 = false ∧ parseFieldDescriptor (T j).2.2.1 = some ty
theorem z_getI {idx ci j o : Nat} {fs : List (Option Nat)} (hd : decode J.2.1 pc = .ok (.getfield idx, 3)) (hg : zGet J.1.cls idx ci j) (hs : zShape[o]? = some (.inl (ci, fs))) (hj : fs[j]? = some none) (k0 : Z E J D K Q (pc + 3) k ls (.int (M.1 o j) :: st) M) : Z E J D K Q pc k ls (.ref o :: st) M := by
  intro p e s m args below meth c H locs Ls hF hP hL
  obtain ⟨C, T, N, hc, hjN, hin, hl⟩ := hg
  have hv : (fs.mapIdx (zFv E (M.1 o)))[j]? = some (.int (M.1 o j)) := by simp [hj, zFv]
  rcases hl with hl | ⟨host, hl⟩
  · exact va_get hF.1 hF.2.1 hF.X.1 hin hF.own hF.kk hP.1 o (zW_obj E M hs) hc j hjN (hF.w hl) (fun x h => h) hv hd (k0 p e s m args below meth c H locs Ls hF hP hL)
  · exact va_getN hF.1 hF.2.1 hF.X.1 hin hF.own hF.kk hP.1 o (zW_obj E M hs) hc j hjN (hF.w hl) (fun x h => h) hv hd (k0 p e s m args below meth c H locs Ls hF hP hL)
theorem z_getR {idx ci j o r : Nat} {fs : List (Option Nat)} (hd : decode J.2.1 pc = .ok (.getfield idx, 3)) (hg : zGet J.1.cls idx ci j) (hs : zShape[o]? = some (.inl (ci, fs))) (hj : fs[j]? = some (some r)) (k0 : Z E J D K Q (pc + 3) k ls (.ref r :: st) M) : Z E J D K Q pc k ls (.ref o :: st) M := by
  intro p e s m args below meth c H locs Ls hF hP hL
  obtain ⟨C, T, N, hc, hjN, hin, hl⟩ := hg
  have hv : (fs.mapIdx (zFv E (M.1 o)))[j]? = some (.ref (zad E r)) := by simp [hj, zFv]
  rcases hl with hl | ⟨host, hl⟩
  · exact va_get hF.1 hF.2.1 hF.X.1 hin hF.own hF.kk hP.1 o (zW_obj E M hs) hc j hjN (hF.w hl) (fun x h => h) hv hd (k0 p e s m args below meth c H locs Ls hF hP hL)
  · exact va_getN hF.1 hF.2.1 hF.X.1 hin hF.own hF.kk hP.1 o (zW_obj E M hs) hc j hjN (hF.w hl) (fun x h => h) hv hd (k0 p e s m args below meth c H locs Ls hF hP hL)
theorem z_putI {idx ci j o : Nat} {fs : List (Option Nat)} {ty : FieldType} {v : Int32} (hd : decode J.2.1 pc = .ok (.putfield idx, 3)) (hg : zPut J.1.cls idx ci j ty) (hs : zShape[o]? = some (.inl (ci, fs))) (hj : fs[j]? = some none) (hn : narrow ty (.int v) = .int v) (hfit : fits ty (.int v) = true) (k0 : Z E J D K Q (pc + 3) k ls st (zup M o j v)) : Z E J D K Q pc k ls (.int v :: .ref o :: st) M := by
  intro p e s m args below meth c H locs Ls hF hP hL
  obtain ⟨C, T, N, ty0, hc, hjN, hin, hl, hty, hnm, hfin, hdd⟩ := hg
  have hlen : j < (fs.mapIdx (zFv E (M.1 o))).length := by simp; exact (List.getElem?_eq_some_iff.mp hj).1
  rcases hl with hl | ⟨host, hl⟩
  · refine va_put hF.1 hF.2.1 hF.X.1 hin ty0 hty hnm hF.own hF.kk hP.1 (hF.dj.D M) hP.2 o (zW_obj E M hs) hc j hjN (hF.w hl) (fun x h => h) hfin hdd hn hfit hlen hd (fun H1 locs1 h1 h2 h3 => ?_)
    rw [show zV E (.int v) = .int v from rfl, zSet_obj hs hj] at h1
    exact k0 p e s m args below meth c H1 locs1 Ls hF ⟨h1, h3⟩ hL
  · refine va_putN hF.1 hF.2.1 hF.X.1 hin ty0 hty hnm hF.own hF.kk hP.1 (hF.dj.D M) hP.2 o (zW_obj E M hs) hc j hjN (hF.w hl) (fun x h => h) hfin hdd hn hfit hlen hd (fun H1 locs1 h1 h2 h3 => ?_)
    rw [show zV E (.int v) = .int v from rfl, zSet_obj hs hj] at h1
    exact k0 p e s m args below meth c H1 locs1 Ls hF ⟨h1, h3⟩ hL
theorem z_iald {o n : Nat} {i : Int32} (hd : decode J.2.1 pc = .ok (.iaload, 1)) (hs : zShape[o]? = some (.inr (0, n))) (hin : vp_in i n) (k0 : Z E J D K Q (pc + 1) k ls (.int (M.1 o i.toNatClampNeg) :: st) M) : Z E J D K Q pc k ls (.int i :: .ref o :: st) M := by
  intro p e s m args below meth c H locs Ls hF hP hL
  exact va_iald hF.1 hF.2.1 hF.kk hP.1 o 0 (zW_arr E M hs) rfl hin hd (k0 p e s m args below meth c H locs Ls hF hP hL)
theorem z_bald {o n : Nat} {i : Int32} (hd : decode J.2.1 pc = .ok (.baload, 1)) (hs : zShape[o]? = some (.inr (1, n))) (hin : vp_in i n) (k0 : Z E J D K Q (pc + 1) k ls (.int (M.1 o i.toNatClampNeg) :: st) M) : Z E J D K Q pc k ls (.int i :: .ref o :: st) M := by
  intro p e s m args below meth c H locs Ls hF hP hL
  exact va_bald hF.1 hF.2.1 hF.kk hP.1 o 1 (zW_arr E M hs) rfl hin hd (k0 p e s m args below meth c H locs Ls hF hP hL)
theorem z_zald {o n : Nat} {i : Int32} (hd : decode J.2.1 pc = .ok (.baload, 1)) (hs : zShape[o]? = some (.inr (2, n))) (hin : vp_in i n) (k0 : Z E J D K Q (pc + 1) k ls (.int (M.1 o i.toNatClampNeg) :: st) M) : Z E J D K Q pc k ls (.int i :: .ref o :: st) M := by
  intro p e s m args below meth c H locs Ls hF hP hL
  exact va_zald hF.1 hF.2.1 hF.kk hP.1 o 2 (zW_arr E M hs) rfl hin hd (k0 p e s m args below meth c H locs Ls hF hP hL)
theorem z_lald {o n : Nat} {i : Int32} (hd : decode J.2.1 pc = .ok (.laload, 1)) (hs : zShape[o]? = some (.inr (3, n))) (hin : vp_in i n) (k0 : Z E J D K Q (pc + 1) k ls (.long (M.2 o i.toNatClampNeg) :: st) M) : Z E J D K Q pc k ls (.int i :: .ref o :: st) M := by
  intro p e s m args below meth c H locs Ls hF hP hL
  exact va_lald hF.1 hF.2.1 hF.kk hP.1 o 3 (zW_arr E M hs) rfl hin hd (k0 p e s m args below meth c H locs Ls hF hP hL)
theorem z_aald {o n : Nat} {i : Int32} (hd : decode J.2.1 pc = .ok (.aaload, 1)) (hs : zShape[o]? = some (.inr (4, n))) (hin : vp_in i n) (k0 : Z E J D K Q (pc + 1) k ls (.ref (zcourt i.toNatClampNeg) :: st) M) : Z E J D K Q pc k ls (.int i :: .ref o :: st) M := by
  intro p e s m args below meth c H locs Ls hF hP hL
  exact va_aldq hF.1 hF.2.1 hF.kk hP.1 o 4 (zW_arr E M hs) rfl hin hd (k0 p e s m args below meth c H locs Ls hF hP hL)
theorem z_iast {o n : Nat} {i x : Int32} (hd : decode J.2.1 pc = .ok (.iastore, 1)) (hs : zShape[o]? = some (.inr (0, n))) (hin : vp_in i n) (k0 : Z E J D K Q (pc + 1) k ls st (zup M o i.toNatClampNeg x)) : Z E J D K Q pc k ls (.int x :: .int i :: .ref o :: st) M := by
  intro p e s m args below meth c H locs Ls hF hP hL
  refine va_iast hF.1 hF.2.1 hF.kk hP.1 (hF.dj.D M) hP.2 o 0 (zW_arr E M hs) rfl hin hd (fun H1 locs1 h1 h2 h3 => ?_)
  rw [zSet_arr hs (by decide)] at h1
  exact k0 p e s m args below meth c H1 locs1 Ls hF ⟨h1, h3⟩ hL
theorem z_bast {o n : Nat} {i x : Int32} (hd : decode J.2.1 pc = .ok (.bastore, 1)) (hs : zShape[o]? = some (.inr (1, n))) (hin : vp_in i n) (k0 : Z E J D K Q (pc + 1) k ls st (zup M o i.toNatClampNeg (vp_nar .byte x))) : Z E J D K Q pc k ls (.int x :: .int i :: .ref o :: st) M := by
  intro p e s m args below meth c H locs Ls hF hP hL
  refine va_bast hF.1 hF.2.1 hF.kk hP.1 (hF.dj.D M) hP.2 o 1 (zW_arr E M hs) rfl hin hd (fun H1 locs1 h1 h2 h3 => ?_)
  rw [zSet_arr hs (by decide)] at h1
  exact k0 p e s m args below meth c H1 locs1 Ls hF ⟨h1, h3⟩ hL
theorem z_zast {o n : Nat} {i x : Int32} (hd : decode J.2.1 pc = .ok (.bastore, 1)) (hs : zShape[o]? = some (.inr (2, n))) (hin : vp_in i n) (k0 : Z E J D K Q (pc + 1) k ls st (zup M o i.toNatClampNeg (vp_nar .boolean x))) : Z E J D K Q pc k ls (.int x :: .int i :: .ref o :: st) M := by
  intro p e s m args below meth c H locs Ls hF hP hL
  refine va_zast hF.1 hF.2.1 hF.kk hP.1 (hF.dj.D M) hP.2 o 2 (zW_arr E M hs) rfl hin hd (fun H1 locs1 h1 h2 h3 => ?_)
  rw [zSet_arr hs (by decide)] at h1
  exact k0 p e s m args below meth c H1 locs1 Ls hF ⟨h1, h3⟩ hL
theorem z_last {o n : Nat} {i : Int32} {x : Int64} (hd : decode J.2.1 pc = .ok (.lastore, 1)) (hs : zShape[o]? = some (.inr (3, n))) (hin : vp_in i n) (k0 : Z E J D K Q (pc + 1) k ls st (zupL M o i.toNatClampNeg x)) : Z E J D K Q pc k ls (.long x :: .int i :: .ref o :: st) M := by
  intro p e s m args below meth c H locs Ls hF hP hL
  refine va_last hF.1 hF.2.1 hF.kk hP.1 (hF.dj.D M) hP.2 o 3 (zW_arr E M hs) rfl hin hd (fun H1 locs1 h1 h2 h3 => ?_)
  rw [zSet_arrL hs] at h1
  exact k0 p e s m args below meth c H1 locs1 Ls hF ⟨h1, h3⟩ hL
theorem z_alen {o n : Nat} {v : Int32} (hd : decode J.2.1 pc = .ok (.arraylength, 1)) (hs : zShape[o]? = some (.inr (0, n))) (hv : Int32.ofNat n = v) (k0 : Z E J D K Q (pc + 1) k ls (.int v :: st) M) : Z E J D K Q pc k ls (.ref o :: st) M := by
  intro p e s m args below meth c H locs Ls hF hP hL
  exact va_alen hF.1 hF.2.1 hF.kk hP.1 o 0 (zW_arr E M hs) (ty := .int) rfl hv hd (k0 p e s m args below meth c H locs Ls hF hP hL)
theorem z_iret {v : Int32} {ty : FieldType} (hd : decode J.2.1 pc = .ok (.ireturn, 1)) (hj : J.2.2.2.1 = some ty) (hn : narrow ty (.int v) = .int v) (hk : k ≤ K) (hQ : Q (.inl (some (.int v))) M) : Z E J D K Q pc k ls [.int v] M := by
  intro p e s m args below meth c H locs Ls hF hP hL
  exact W.widen hk (by omega) (vx_ret (W.zret hF.1 hF.2.1 (hF.2.2.1.trans hj) hn (fun t ht hw => ⟨some (.int v), M, rfl, hQ, by rw [ht]; exact hP.1, hP.2.F ht⟩) hP.2.2.2 hd hF.locks))
theorem z_lret {v : Int64} (hd : decode J.2.1 pc = .ok (.lreturn, 1)) (hj : J.2.2.2.1 = some .long) (hk : k ≤ K) (hQ : Q (.inl (some (.long v))) M) : Z E J D K Q pc k ls [.long v] M := by
  intro p e s m args below meth c H locs Ls hF hP hL
  exact W.widen hk (by omega) (vx_ret (W.lret hF.1 hF.2.1 (hF.2.2.1.trans hj) (fun t ht hw => ⟨some (.long v), M, rfl, hQ, by rw [ht]; exact hP.1, hP.2.F ht⟩) hP.2.2.2 hd hF.locks))
theorem z_vret (hd : decode J.2.1 pc = .ok (.return_, 1)) (hj : J.2.2.2.1 = none) (hk : k ≤ K) (hQ : Q (.inl none) M) : Z E J D K Q pc k ls [] M := by
  intro p e s m args below meth c H locs Ls hF hP hL
  exact W.widen hk (by omega) (vx_ret (W.vret hF.1 hF.2.1 (hF.2.2.1.trans hj) (fun t ht hw => ⟨none, M, rfl, hQ, by rw [ht]; exact hP.1, hP.2.F ht⟩) hP.2.2.2 hd hF.locks))
end ZH
