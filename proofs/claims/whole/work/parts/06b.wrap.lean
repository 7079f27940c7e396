/-! ===== methods with handlers (the law's own): a call whose throw is taken here ===== -/
/-- at pc, a throw of X is taken by the row that leads to hpc -/
def zCat (E : zEv) (own : String) (hh : List (Nat × Nat × Nat × Nat)) (pc : Nat) (X : String) (hpc : Nat) : Prop := ∃ (pre : List ExceptionTableEntry) (x : ExceptionTableEntry) (suf : List ExceptionTableEntry), tableOf hh = pre ++ x :: suf ∧
  (∀ z ∈ pre, covers z pc = true ∧ z.catchType ≠ 0 ∧ ∃ nm : String, Cond.classLink own z.catchType nm ∈ zT ∧ ∀ U : State, zNcs U → va_Nc X nm U) ∧ covers x pc = true ∧ x.catchType ≠ 0 ∧ (∃ name : String, Cond.classLink own x.catchType name ∈ zT ∧ Cond.castable X name ∈ zT) ∧ x.handlerPc = hpc
/-- the code at hpc: the thing caught is put away, v comes back -/
def zHan (J : zJ) (hpc : Nat) (v : Int32) : Prop := J.2.2.2.1 = some .int ∧ ∃ n : Int, Int32.ofInt n = v ∧ ((∃ q : Fin 4, (q : Nat) < J.2.2.1 ∧ decode J.2.1 hpc = .ok (.astore_n q, 1) ∧ decode J.2.1 (hpc + 1) = .ok (.iconst n, 1) ∧ decode J.2.1 (hpc + 1 + 1) = .ok (.ireturn, 1)) ∨
  (∃ i : Nat, i < J.2.2.1 ∧ decode J.2.1 hpc = .ok (.astore i, 2) ∧ decode J.2.1 (hpc + 2) = .ok (.iconst n, 1) ∧ decode J.2.1 (hpc + 2 + 1) = .ok (.ireturn, 1)))
section ZB
variable {E : zEv} {J J1 : zJ} {D K K1 pc k : Nat} {Q : zO → zM → Prop} {ls st : List Value} {M : zM} {px1 : String → zM → Prop}
theorem z_callCi {idx n o ci : Nat} {As stk : List Value} {fs : List (Option Nat)} {r : vw_C} {post1 : Int32 → zM → Prop} (hd : decode J.2.1 pc = .ok (.invokevirtual idx, 3)) (hi : zInv J.1.cls idx J1 n) (hst : stk = As.reverse ++ .ref o :: st) (hn : As.length = n) (hs : zShape[o]? = some (.inl (ci, fs))) (hc : vwCl[ci]? = some r) (hrc : r.1 = J1.1.cls) (hw : (st.map fun v => v.category).sum ≤ 8) (hk : k + K1 ≤ K)
    (kx : ∀ X M', px1 X M' → ∃ hpc v, zCat E J.1.cls J.2.2.2.2 pc X hpc ∧ zHan J hpc v ∧ Q (.inl (some (.int v))) M')
    (hM : zCi E J1 D K1 (.ref o :: As) M post1 px1) (kr : ∀ x M', post1 x M' → Z E J (D + 1) K Q (pc + 3) (k + K1) ls (.int x :: st) M') : Z E J (D + 1) K Q pc k ls stk M := by
  intro p e s m args below meth c H locs Ls hF hP hL
  obtain ⟨hl, hin, hse, hini, hcode, hy1, hy2, hpar, hmx⟩ := hi
  have cb := zCallB (D := D) (K := K) (K1 := K1) hF hl hini hcode hy1 hy2 hpar hmx
  have hrv := va_recv hF.kk hP.1 hc (zW_obj E M hs)
  rw [hrc] at hrv
  have hr := vx_runV (locs := locs) (cells := k) (slots := 6 * k) (below := below) (e := e) (meth := meth) (As := As.map (zV E)) (rest := st.map (zV E)) (b := zad E o) (C := J1.1.cls) (g := F0 m pc Ls (stk.map (zV E))) ⟨hF.1, hF.2.1, hF.2.2.2.1, hF.own, hF.X.1⟩ hM ⟨cb, hF.w hin, hF.w hse⟩ ⟨zblind, hrv, zPre hF hP (.ref o :: As)⟩ rfl (by rw [List.length_map]; exact hn) hL.1 (by rw [hst]; simp [zV]) (by show 2 * 0 + _ ≤ 8; rw [zmap_cat]; omega) hd ⟨hk, by show 6 * k + 6 * K1 ≤ 6 * K; omega⟩
  intro T hT X
  rcases hr T hT X with ⟨v, st₀, t, T', L, h0, X', hLs, e1, e2, ⟨v', M', hv, hQ1, hP1, hF1⟩, go⟩ | ⟨q, st₀, t, T', L, E', ce, h0, X', hLs, e1, e2, ⟨M', hQ1, hP1, hF1⟩, hce, hcv, hcl, go⟩
  · have ev : v = v'.map (zV E) := by injection hv
    subst ev
    match v', hQ1 with
    | some (.int x), hQ1 =>
      have X2 : Stand p (zl E) e (zR (D + 1) K) s m args below meth c T' (locs ++ L) (k + K1) (6 * (k + K1)) := by rw [Nat.mul_add]; exact X'
      have hS1 := (vx_keep h0 e1 hP.2 (fun _ _ h => h) (fun _ h => h) hLs hF1).2.2
      obtain ⟨t2, a1, b1⟩ := kr x M' hQ1 p e s m args below meth c T'.heap (locs ++ L) Ls hF ⟨by rw [e1]; exact hP1, hS1⟩ hL T' rfl X2
      exact ⟨t2, go t2 a1, b1⟩
  · have X2 : Stand p (zl E) e (zR (D + 1) K) s m args below meth c T' (locs ++ L) (k + K1) (6 * (k + K1)) := by rw [Nat.mul_add]; exact X'
    have hS1 := (vx_keep h0 e1 hP.2 (fun _ _ h => h) (fun _ h => h) hLs hF1).2.2
    obtain ⟨hpc, v, ⟨pre, x, suf, ht, hpass, hx, hx0, ⟨name, hlk, hca⟩, rfl⟩, ⟨hjr, n9, hn9, hcodes⟩, hq⟩ := kx E' M' hQ1
    have fin : ∀ (pc9 : Nat) (Ls9 : Array Slot), decode J.2.1 pc9 = .ok (.iconst n9, 1) → decode J.2.1 (pc9 + 1) = .ok (.ireturn, 1) → W p (zl E) e (zR (D + 1) K) s m args below meth c T'.heap (locs ++ L) (k + K1) (6 * (k + K1)) (vx_MQ below (zQc E Q) (zXC E Q) args s K (6 * K) (zA E)) (F0 m pc9 Ls9 []) := by
      intro pc9 Ls9 d1 d2
      refine lv_iconst hF.1 hF.2.1 d1 hn9 ?_
      exact W.widen hk (by omega) (vx_ret (W.zret hF.1 hF.2.1 (hF.2.2.1.trans hjr) rfl (fun t ht hw => ⟨some (.int v), M', rfl, hq, by rw [ht, e1]; exact hP1, hS1.F ht⟩) hS1.2.2 d2 hF.locks))
    have key : vx_W p (zl E) e (zR (D + 1) K) s m args below meth c T'.heap (locs ++ L) (k + K1) (6 * (k + K1)) (vx_MQ below (zQc E Q) (zXC E Q) args s K (6 * K) (zA E)) (F0 m pc Ls (st.map (zV E))) q := by
      refine zk_catch (own := J.1.cls) (name := name) (E := E') (ce := ce) hF.own pre x suf (hF.tb.trans ht) (fun z hz => ?_) hx hx0 (hF.w hlk) (hF.w hca) (by rw [e1]; exact hce) hcv hcl ?_
      · obtain ⟨z1, z2, nm, z3, z4⟩ := hpass z hz
        exact ⟨z1, z2, nm, hF.w z3, z4 s hF.X.2.2.2.2.2.2.2.2.2.1⟩
      · rcases hcodes with ⟨q9, hq9, d0, d1, d2⟩ | ⟨i9, hi9, d0, d1, d2⟩
        · exact lv_astore_n hF.1 hF.2.1 d0 rfl (zL_nil hL) hq9 rfl (fun Ls9 _ => fin _ Ls9 d1 d2)
        · exact lv_astore hF.1 hF.2.1 d0 (zL_nil hL) hi9 rfl (fun Ls9 _ => fin _ Ls9 d1 d2)
    obtain ⟨t2, a1, b1⟩ := key T' rfl X2
    exact ⟨t2, go.trans a1, b1⟩
/-- the contract of a method with handlers -/
def zCWi (E : zEv) (J : zJ) (D K : Nat) (args : List Value) (M : zM) (post : Int32 → zM → Prop) : Prop :=
  vx_Met (zl E) J.1 (.codeWith J.1 J.2.1 J.2.2.1 J.2.2.2.1 J.2.2.2.2 :: zT) (zR D K) (fun a U => a = (args.map (zV E)).toArray ∧ va_P (zD E) vwCl (zW E M) U.heap ∧ va_K (zD E) vwCl (zts E) U ∧ zb E ≤ U.heap.size ∧ zOld E U U.heap ∧ zDj E ∧ (zl E).stackTraces = false) (zQc E (zQi post (fun _ _ => False))) (zXC E (zQi post (fun _ _ => False))) K (6 * K) (zA E)
theorem z_methW {args : List Value} {post : Int32 → zM → Prop} (hy : plainName J.1.cls = true) (hlen : (zArgs args).length ≤ J.2.2.1) (h : Z E J D K (zQi post (fun _ _ => False)) 0 0 (zBeg J.2.2.1 args) [] M) : zCWi E J D K args M post := by
  refine vx_ofWH (cc := J.2.1) (maxL := J.2.2.1) (ret := J.2.2.2.1) (hh := J.2.2.2.2) hy rfl ?_
  intro p e s m a below meth c s₁ B hml hv
  obtain ⟨rfl, hP, hK, hb, hO, hD, hT⟩ := hv
  have hts := atoms_spec (ws := .codeWith J.1 J.2.1 J.2.2.1 J.2.2.2.1 J.2.2.2.2 :: zT) B.pre
  have hl := lv_entry (args.map (zV E)) (n := J.2.2.1) (by rw [zArgs_sl]; exact hlen)
  rw [lg_entry_eq]
  refine h p e s m _ below meth c s.heap [] _ ⟨B.exec, B.bytes, B.returns, hml, findClass_of_methodNamed B.named, B.notSynchronized, vx_table (x := J.1) B (hts _ List.mem_cons_self), ⟨fun w hw => hts w (List.mem_cons_of_mem _ hw), hK, hb, hO⟩, hD, hT⟩ ⟨hP, va_S.rf⟩ ⟨hl.1, ?_, hl.2.1, ?_⟩
  · simp [zBeg]; omega
  · intro i v hi hv
    refine hl.2.2 (i, zV E v) ?_
    have h1 : (zArgs args)[i]? = some v := by
      simp only [zBeg, List.getElem?_append] at hi
      split at hi
      · exact hi
      · rw [List.getElem?_replicate] at hi
        split at hi
        · exact absurd (Option.some.inj hi).symm hv
        · cases hi
    have := zArgs_in (E := E) args 0 i v h1 hv
    rwa [Nat.zero_add] at this
def zInvW (own : String) (idx : Nat) (J1 : zJ) (n : Nat) : Prop := Cond.methodLink own idx J1.1 ∈ zT ∧ Cond.static J1.1 ∈ zT ∧ Cond.initialized J1.1.cls ∈ zT ∧ Cond.codeWith J1.1 J1.2.1 J1.2.2.1 J1.2.2.2.1 J1.2.2.2.2 ∈ zT ∧ J1.1.cls ≠ "java/lang/invoke/MethodHandle" ∧ J1.1.cls ≠ "java/lang/invoke/VarHandle" ∧ (parseMethodDescriptor J1.1.desc).map (fun d => d.parameters.length) = some n ∧ J1.2.2.1 ≤ 45
theorem z_callWi {idx n : Nat} {As stk : List Value} {post1 : Int32 → zM → Prop} (hd : decode J.2.1 pc = .ok (.invokestatic idx, 3)) (hi : zInvW J.1.cls idx J1 n) (hst : stk = As.reverse ++ st) (hn : As.length = n) (hw : (st.map fun v => v.category).sum ≤ 8) (hk : k + K1 ≤ K)
    (hM : zCWi E J1 D K1 As M post1) (kr : ∀ x M', post1 x M' → Z E J (D + 1) K Q (pc + 3) (k + K1) ls (.int x :: st) M') (hnil : J.2.2.2.2 = [] := by rfl) : Z E J (D + 1) K Q pc k ls stk M := by
  intro p e s m args below meth c H locs Ls hF hP hL
  obtain ⟨hl, hsta, hini, hcode, hy1, hy2, hpar, hmx⟩ := hi
  have cw : vx_CSW (zR (D + 1) K) s args J.1.cls idx J1.1 J1.2.1 J1.2.2.1 J1.2.2.2.1 J1.2.2.2.2 (.codeWith J1.1 J1.2.1 J1.2.2.1 J1.2.2.2.1 J1.2.2.2.2 :: zT) (zR D K1) K1 (6 * K1) n := by
    refine ⟨⟨rfl, rfl, by show D + 8 + 1 ≤ D + 1 + 8; omega, by show 8 + (J1.2.2.1 + 11) + (64 * D + 128) ≤ 64 * (D + 1) + 128; omega, ?_, List.mem_cons_self⟩, hF.w hcode, hF.w hini, ⟨hy1, hy2⟩, ?_, hF.w hl, hF.w hsta⟩
    · intro w hw a' U hW
      rcases List.mem_cons.mp hw with rfl | hw
      · exact zT_warm hW hF.X.1 _ hcode
      · exact zT_warm hW hF.X.1 w hw
    · intro sig h
      rw [h] at hpar
      exact (Option.some.inj hpar).symm
  refine zAfter hF hP hL hk (vx_runSX (As := As.map (zV E)) (g := F0 m pc Ls (stk.map (zV E))) ⟨hF.1, hF.2.1, hF.2.2.2.1, hF.own, hF.X.1⟩ hM cw ⟨zblind, zPre hF hP As⟩ rfl (by rw [List.length_map]; exact hn) hL.1 ?_ ?_ hd ⟨hk, ?_⟩) (fun v M' h => by
    match v, h with
    | some (.int x), h => exact kr x M' h) (fun X M' h => by cases h) hnil
  · rw [hst]; simp
  · show 2 * 0 + _ ≤ 8
    rw [zmap_cat]; omega
  · show 6 * k + 6 * K1 ≤ 6 * K
    omega
end ZB
