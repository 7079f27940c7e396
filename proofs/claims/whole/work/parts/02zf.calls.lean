/-! ===== Z: calls, contracts, throws ===== -/
section ZC
variable {E : zEv} {J J1 : zJ} {D K K1 pc k : Nat} {Q Q1 : zO → zM → Prop} {ls ls' st : List Value} {M : zM}
/-- entry idx of own's pool is the method J1, which takes n arguments, called on an object of its class -/
def zInv (own : String) (idx : Nat) (J1 : zJ) (n : Nat) : Prop := Cond.methodLink own idx J1.1 ∈ zT ∧ Cond.instanceMethod J1.1 ∈ zT ∧ Cond.selects J1.1.cls J1.1 J1.1 ∈ zT ∧ Cond.initialized J1.1.cls ∈ zT ∧ Cond.code J1.1 J1.2.1 J1.2.2.1 J1.2.2.2.1 ∈ zT ∧ J1.1.cls ≠ "java/lang/invoke/MethodHandle" ∧ J1.1.cls ≠ "java/lang/invoke/VarHandle" ∧ (parseMethodDescriptor J1.1.desc).map (fun d => d.parameters.length) = some n ∧ J1.2.2.1 ≤ 45
def zInvS (own : String) (idx : Nat) (J1 : zJ) (n : Nat) : Prop := Cond.methodLink own idx J1.1 ∈ zT ∧ Cond.static J1.1 ∈ zT ∧ Cond.initialized J1.1.cls ∈ zT ∧ Cond.code J1.1 J1.2.1 J1.2.2.1 J1.2.2.2.1 ∈ zT ∧ J1.1.cls ≠ "java/lang/invoke/MethodHandle" ∧ J1.1.cls ≠ "java/lang/invoke/VarHandle" ∧ (parseMethodDescriptor J1.1.desc).map (fun d => d.parameters.length) = some n ∧ J1.2.2.1 ≤ 45
theorem zmap_cat (E : zEv) (st : List Value) : ((st.map (zV E)).map fun v => v.category) = st.map fun v => v.category := by
  rw [List.map_map]; exact List.map_congr_left fun v _ => zV_cat E v
theorem zblind {args : List Value} : FrameBlind (fun a U => a = (args.map (zV E)).toArray ∧ va_P (zD E) vwCl (zW E M) U.heap ∧ va_K (zD E) vwCl (zts E) U ∧ zb E ≤ U.heap.size ∧ zOld E U U.heap ∧ zDj E ∧ (zl E).stackTraces = false) := by
  intro a U g mk h
  obtain ⟨h1, h2, h3, h4, h5, h6, h7⟩ := h
  exact ⟨h1, h2, h3.moved (Vm.Alike.refl _), h4, h5.same rfl, h6, h7⟩
theorem zCallB {s : State} {m : MethodId} {args : Array Value} {p : Program} {meth : Method} {c : Code} {idx n : Nat} (hF : zF E J p s m args meth c) (hl : Cond.methodLink J.1.cls idx J1.1 ∈ zT) (hini : Cond.initialized J1.1.cls ∈ zT) (hcode : Cond.code J1.1 J1.2.1 J1.2.2.1 J1.2.2.2.1 ∈ zT) (hy1 : J1.1.cls ≠ "java/lang/invoke/MethodHandle") (hy2 : J1.1.cls ≠ "java/lang/invoke/VarHandle") (hpar : (parseMethodDescriptor J1.1.desc).map (fun d => d.parameters.length) = some n) (hmx : J1.2.2.1 ≤ 45) :
    CallB (zR (D + 1) K) s args J.1.cls idx J1.1 J1.2.1 J1.2.2.1 J1.2.2.2.1 (.code J1.1 J1.2.1 J1.2.2.1 J1.2.2.2.1 :: zT) (zR D K1) K1 (6 * K1) n := by
  refine ⟨rfl, rfl, by show D + 8 + 1 ≤ D + 1 + 8; omega, by show 8 + (J1.2.2.1 + 11) + (64 * D + 128) ≤ 64 * (D + 1) + 128; omega, ?_, List.mem_cons_self, hF.w hcode, hF.w hini, ⟨hy1, hy2⟩, ?_, hF.w hl⟩
  · intro w hw a' U hW
    rcases List.mem_cons.mp hw with rfl | hw
    · exact zT_warm hW hF.X.1 _ hcode
    · exact zT_warm hW hF.X.1 w hw
  · intro sig h
    rw [h] at hpar
    exact (Option.some.inj hpar).symm
theorem zPre {s : State} {m : MethodId} {args : Array Value} {p : Program} {meth : Method} {c : Code} {H : Heap} {locs : List Loc} (hF : zF E J p s m args meth c) (hP : zP E M s H locs) (As : List Value) : ∀ U : State, U.heap = H → s.WarmedH U.vm → (fun (a : Array Value) (U : State) => a = (As.map (zV E)).toArray ∧ va_P (zD E) vwCl (zW E M) U.heap ∧ va_K (zD E) vwCl (zts E) U ∧ zb E ≤ U.heap.size ∧ zOld E U U.heap ∧ zDj E ∧ (zl E).stackTraces = false) (As.map (zV E)).toArray U := by
  intro U hU hW
  have hX : zX E args U := hF.X.go hW (locs := locs) (by rw [hU]; exact hP.2)
  exact ⟨rfl, by rw [hU]; exact hP.1, hX.2.1, hX.2.2.1, hX.2.2.2, hF.dj, hF.tr⟩
/-- what comes behind a call -/
theorem zAfter {p : Program} {e : Env} {s : State} {m : MethodId} {args : Array Value} {below : List Frame} {meth : Method} {c : Code} {H : Heap} {locs : List Loc} {Ls : Array Slot} {st0 : List Value} {a : Array Value}
    (hF : zF E J p s m args meth c) (hP : zP E M s H locs) (hL : zL E J.2.2.1 Ls ls) (hk : k + K1 ≤ K)
    (hr : vx_Run p (zl E) e (zR D K) s m args below meth c H locs k (6 * k) K1 (6 * K1) (F0 m pc Ls st0) (st.map (zV E)) (zQc E Q1 a) (zXC E Q1) (zA E))
    (kr : ∀ v M', Q1 (.inl v) M' → Z E J D K Q (pc + 3) (k + K1) ls (v.toList ++ st) M') (kx : ∀ X M', Q1 (.inr X) M' → Q (.inr X) M') (hnil : J.2.2.2.2 = []) :
    W p (zl E) e (zR D K) s m args below meth c H locs k (6 * k) (vx_MQ below (zQc E Q) (zXC E Q) args s K (6 * K) (zA E)) (F0 m pc Ls st0) := by
  have keep : ∀ (st₀ t T' : State) (L : List Loc), st₀.heap = H → T'.heap = t.heap → va_F (zA E) st₀ t → (∀ q ∈ L, zA E q.base) → va_S (zA E) s.heap T'.heap (locs ++ L) := fun st₀ t T' L h0 e1 hF1 hLs => (vx_keep h0 e1 hP.2 (fun _ _ h => h) (fun _ h => h) hLs hF1).2.2
  intro T hT X
  rcases hr T hT X with ⟨v, st₀, t, T', L, h0, X', hLs, e1, e2, ⟨v', M', hv, hQ1, hP1, hF1⟩, go⟩ | ⟨q, st₀, t, T', L, E', ce, h0, X', hLs, e1, e2, ⟨M', hQ1, hP1, hF1⟩, hce, hcv, hcl, go⟩
  · have ev : v = v'.map (zV E) := by injection hv
    subst ev
    have X2 : Stand p (zl E) e (zR D K) s m args below meth c T' (locs ++ L) (k + K1) (6 * (k + K1)) := by rw [Nat.mul_add]; exact X'
    obtain ⟨t2, a1, b1⟩ := kr v' M' hQ1 p e s m args below meth c T'.heap (locs ++ L) Ls hF ⟨by rw [e1]; exact hP1, keep st₀ t T' L h0 e1 hF1 hLs⟩ hL T' rfl X2
    refine ⟨t2, go t2 ?_, b1⟩
    have es : (v'.toList ++ st).map (zV E) = (v'.map (zV E)).toList ++ st.map (zV E) := by cases v' <;> simp
    rw [es] at a1
    exact a1
  · have X2 : Stand p (zl E) e (zR D K) s m args below meth c T' (locs ++ L) (k + K1) (6 * (k + K1)) := by rw [Nat.mul_add]; exact X'
    have hS1 := keep st₀ t T' L h0 e1 hF1 hLs
    have key : vx_W p (zl E) e (zR D K) s m args below meth c T'.heap (locs ++ L) (k + K1) (6 * (k + K1)) (vx_MQ below (zQc E Q) (zXC E Q) args s K (6 * K) (zA E)) (F0 m pc Ls (st.map (zV E))) q :=
      vx_out (fun x hx => (hF.tbl hnil x hx).elim) hF.locks (by rw [e1]; exact hce) hcv hcl (fun t1 ht1 _ => ⟨M', kx E' M' hQ1, by rw [ht1, e1]; exact hP1, hS1.F ht1⟩) hS1.2.2 hk (by omega)
    obtain ⟨t2, a1, b1⟩ := key T' rfl X2
    exact ⟨t2, go.trans a1, b1⟩
theorem z_callV {idx n o ci : Nat} {As stk : List Value} {fs : List (Option Nat)} {r : vw_C} (hd : decode J.2.1 pc = .ok (.invokevirtual idx, 3)) (hi : zInv J.1.cls idx J1 n) (hst : stk = As.reverse ++ .ref o :: st) (hn : As.length = n) (hs : zShape[o]? = some (.inl (ci, fs))) (hc : vwCl[ci]? = some r) (hrc : r.1 = J1.1.cls) (hw : (st.map fun v => v.category).sum ≤ 8) (hk : k + K1 ≤ K)
    (hM : zC E J1 D K1 (.ref o :: As) M Q1) (kr : ∀ v M', Q1 (.inl v) M' → Z E J (D + 1) K Q (pc + 3) (k + K1) ls (v.toList ++ st) M') (kx : ∀ X M', Q1 (.inr X) M' → Q (.inr X) M') (hnil : J.2.2.2.2 = [] := by rfl) : Z E J (D + 1) K Q pc k ls stk M := by
  intro p e s m args below meth c H locs Ls hF hP hL
  obtain ⟨hl, hin, hse, hini, hcode, hy1, hy2, hpar, hmx⟩ := hi
  have cb := zCallB (D := D) (K := K) (K1 := K1) hF hl hini hcode hy1 hy2 hpar hmx
  have hrv := va_recv hF.kk hP.1 hc (zW_obj E M hs)
  rw [hrc] at hrv
  refine zAfter hF hP hL hk (vx_runV (As := As.map (zV E)) (b := zad E o) (C := J1.1.cls) (g := F0 m pc Ls (stk.map (zV E))) ⟨hF.1, hF.2.1, hF.2.2.2.1, hF.own, hF.X.1⟩ hM ⟨cb, hF.w hin, hF.w hse⟩ ⟨zblind, hrv, zPre hF hP (.ref o :: As)⟩ rfl (by rw [List.length_map]; exact hn) hL.1 ?_ ?_ hd ⟨hk, ?_⟩) kr kx hnil
  · rw [hst]; simp [zV]
  · show 2 * 0 + _ ≤ 8
    rw [zmap_cat]; omega
  · show 6 * k + 6 * K1 ≤ 6 * K
    omega
theorem z_callS {idx n : Nat} {As stk : List Value} (hd : decode J.2.1 pc = .ok (.invokestatic idx, 3)) (hi : zInvS J.1.cls idx J1 n) (hst : stk = As.reverse ++ st) (hn : As.length = n) (hw : (st.map fun v => v.category).sum ≤ 8) (hk : k + K1 ≤ K)
    (hM : zC E J1 D K1 As M Q1) (kr : ∀ v M', Q1 (.inl v) M' → Z E J (D + 1) K Q (pc + 3) (k + K1) ls (v.toList ++ st) M') (kx : ∀ X M', Q1 (.inr X) M' → Q (.inr X) M') (hnil : J.2.2.2.2 = [] := by rfl) : Z E J (D + 1) K Q pc k ls stk M := by
  intro p e s m args below meth c H locs Ls hF hP hL
  obtain ⟨hl, hsta, hini, hcode, hy1, hy2, hpar, hmx⟩ := hi
  have cb := zCallB (D := D) (K := K) (K1 := K1) hF hl hini hcode hy1 hy2 hpar hmx
  refine zAfter hF hP hL hk (vx_runS (As := As.map (zV E)) (g := F0 m pc Ls (stk.map (zV E))) ⟨hF.1, hF.2.1, hF.2.2.2.1, hF.own, hF.X.1⟩ hM ⟨cb, hF.w hsta⟩ ⟨zblind, zPre hF hP As⟩ rfl (by rw [List.length_map]; exact hn) hL.1 ?_ ?_ hd ⟨hk, ?_⟩) kr kx hnil
  · rw [hst]; simp
  · show 2 * 0 + _ ≤ 8
    rw [zmap_cat]; omega
  · show 6 * k + 6 * K1 ≤ 6 * K
    omega
end ZC
