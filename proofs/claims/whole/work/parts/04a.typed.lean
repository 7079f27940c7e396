/-! ===== typed contracts: an int, a long, nothing comes back; px: what holds where it throws ===== -/
def zQi (post : Int32 → zM → Prop) (px : String → zM → Prop) : zO → zM → Prop := fun o M => match o with
  | .inl (some (.int r)) => post r M
  | .inr X => px X M
  | _ => False
def zQl (post : Int64 → zM → Prop) (px : String → zM → Prop) : zO → zM → Prop := fun o M => match o with
  | .inl (some (.long r)) => post r M
  | .inr X => px X M
  | _ => False
def zQv (post : zM → Prop) (px : String → zM → Prop) : zO → zM → Prop := fun o M => match o with
  | .inl none => post M
  | .inr X => px X M
  | _ => False
def zCi (E : zEv) (J : zJ) (D K : Nat) (args : List Value) (M : zM) (post : Int32 → zM → Prop) (px : String → zM → Prop) : Prop := zC E J D K args M (zQi post px)
def zCl (E : zEv) (J : zJ) (D K : Nat) (args : List Value) (M : zM) (post : Int64 → zM → Prop) (px : String → zM → Prop) : Prop := zC E J D K args M (zQl post px)
def zCv (E : zEv) (J : zJ) (D K : Nat) (args : List Value) (M : zM) (post : zM → Prop) (px : String → zM → Prop) : Prop := zC E J D K args M (zQv post px)
section ZT
variable {E : zEv} {J J1 : zJ} {D K K1 pc k : Nat} {Q : zO → zM → Prop} {ls ls' st : List Value} {M : zM} {px : String → zM → Prop}
theorem z_callVi {idx n o ci : Nat} {As stk : List Value} {fs : List (Option Nat)} {r : vw_C} {post1 : Int32 → zM → Prop} (hd : decode J.2.1 pc = .ok (.invokevirtual idx, 3)) (hi : zInv J.1.cls idx J1 n) (hst : stk = As.reverse ++ .ref o :: st) (hn : As.length = n) (hs : zShape[o]? = some (.inl (ci, fs))) (hc : vwCl[ci]? = some r) (hrc : r.1 = J1.1.cls) (hw : (st.map fun v => v.category).sum ≤ 8) (hk : k + K1 ≤ K) (kx : ∀ X M', px X M' → Q (.inr X) M')
    (hM : zCi E J1 D K1 (.ref o :: As) M post1 px) (kr : ∀ x M', post1 x M' → Z E J (D + 1) K Q (pc + 3) (k + K1) ls (.int x :: st) M') (hnil : J.2.2.2.2 = [] := by rfl) : Z E J (D + 1) K Q pc k ls stk M :=
  z_callV hd hi hst hn hs hc hrc hw hk hM (fun v M' h => by
    match v, h with
    | some (.int x), h => exact kr x M' h) (fun X M' h => kx X M' h) hnil
theorem z_callVl {idx n o ci : Nat} {As stk : List Value} {fs : List (Option Nat)} {r : vw_C} {post1 : Int64 → zM → Prop} (hd : decode J.2.1 pc = .ok (.invokevirtual idx, 3)) (hi : zInv J.1.cls idx J1 n) (hst : stk = As.reverse ++ .ref o :: st) (hn : As.length = n) (hs : zShape[o]? = some (.inl (ci, fs))) (hc : vwCl[ci]? = some r) (hrc : r.1 = J1.1.cls) (hw : (st.map fun v => v.category).sum ≤ 8) (hk : k + K1 ≤ K) (kx : ∀ X M', px X M' → Q (.inr X) M')
    (hM : zCl E J1 D K1 (.ref o :: As) M post1 px) (kr : ∀ x M', post1 x M' → Z E J (D + 1) K Q (pc + 3) (k + K1) ls (.long x :: st) M') (hnil : J.2.2.2.2 = [] := by rfl) : Z E J (D + 1) K Q pc k ls stk M :=
  z_callV hd hi hst hn hs hc hrc hw hk hM (fun v M' h => by
    match v, h with
    | some (.long x), h => exact kr x M' h) (fun X M' h => kx X M' h) hnil
theorem z_callVv {idx n o ci : Nat} {As stk : List Value} {fs : List (Option Nat)} {r : vw_C} {post1 : zM → Prop} (hd : decode J.2.1 pc = .ok (.invokevirtual idx, 3)) (hi : zInv J.1.cls idx J1 n) (hst : stk = As.reverse ++ .ref o :: st) (hn : As.length = n) (hs : zShape[o]? = some (.inl (ci, fs))) (hc : vwCl[ci]? = some r) (hrc : r.1 = J1.1.cls) (hw : (st.map fun v => v.category).sum ≤ 8) (hk : k + K1 ≤ K) (kx : ∀ X M', px X M' → Q (.inr X) M')
    (hM : zCv E J1 D K1 (.ref o :: As) M post1 px) (kr : ∀ M', post1 M' → Z E J (D + 1) K Q (pc + 3) (k + K1) ls st M') (hnil : J.2.2.2.2 = [] := by rfl) : Z E J (D + 1) K Q pc k ls stk M :=
  z_callV hd hi hst hn hs hc hrc hw hk hM (fun v M' h => by
    match v, h with
    | none, h => exact kr M' h) (fun X M' h => kx X M' h) hnil
theorem z_callSi {idx n : Nat} {As stk : List Value} {post1 : Int32 → zM → Prop} (hd : decode J.2.1 pc = .ok (.invokestatic idx, 3)) (hi : zInvS J.1.cls idx J1 n) (hst : stk = As.reverse ++ st) (hn : As.length = n) (hw : (st.map fun v => v.category).sum ≤ 8) (hk : k + K1 ≤ K) (kx : ∀ X M', px X M' → Q (.inr X) M')
    (hM : zCi E J1 D K1 As M post1 px) (kr : ∀ x M', post1 x M' → Z E J (D + 1) K Q (pc + 3) (k + K1) ls (.int x :: st) M') (hnil : J.2.2.2.2 = [] := by rfl) : Z E J (D + 1) K Q pc k ls stk M :=
  z_callS hd hi hst hn hw hk hM (fun v M' h => by
    match v, h with
    | some (.int x), h => exact kr x M' h) (fun X M' h => kx X M' h) hnil
theorem z_callSv {idx n : Nat} {As stk : List Value} {post1 : zM → Prop} (hd : decode J.2.1 pc = .ok (.invokestatic idx, 3)) (hi : zInvS J.1.cls idx J1 n) (hst : stk = As.reverse ++ st) (hn : As.length = n) (hw : (st.map fun v => v.category).sum ≤ 8) (hk : k + K1 ≤ K) (kx : ∀ X M', px X M' → Q (.inr X) M')
    (hM : zCv E J1 D K1 As M post1 px) (kr : ∀ M', post1 M' → Z E J (D + 1) K Q (pc + 3) (k + K1) ls st M') (hnil : J.2.2.2.2 = [] := by rfl) : Z E J (D + 1) K Q pc k ls stk M :=
  z_callS hd hi hst hn hw hk hM (fun v M' h => by
    match v, h with
    | none, h => exact kr M' h) (fun X M' h => kx X M' h) hnil
/-- what isn't needed any more is forgotten -/
def zwk : List Bool → List Value → List Value
  | b :: bs, v :: vs => (match b with | true => v | false => zU) :: zwk bs vs
  | _, _ => []
theorem zwk_get : ∀ (bs : List Bool) (vs : List Value) (i : Nat) (v : Value), (zwk bs vs)[i]? = some v → v ≠ zU → vs[i]? = some v := by
  intro bs
  induction bs with
  | nil => intro vs i v h; simp [zwk] at h
  | cons b bs ih =>
    intro vs i v h hv
    cases vs with
    | nil => simp [zwk] at h
    | cons w vs =>
      cases i with
      | zero =>
        cases b with
        | true => simpa [zwk] using h
        | false => simp [zwk] at h; exact absurd h.symm hv
      | succ i =>
        simp [zwk] at h ⊢
        exact ih vs i v h hv
theorem z_weak (bs : List Bool) (hs : zwk bs ls = ls') (hl : ls'.length = ls.length) (k0 : Z E J D K Q pc k ls' st M) : Z E J D K Q pc k ls st M := by
  intro p e s m args below meth c H locs Ls hF hP hL
  subst hs
  exact k0 p e s m args below meth c H locs Ls hF hP ⟨hL.1, hl.trans hL.2.1, hL.2.2.1, fun i v hi hv => hL.2.2.2 i v (zwk_get bs ls i v hi hv) hv⟩
theorem z_more {k' : Nat} (h : k ≤ k') (k0 : Z E J D K Q pc k' ls st M) : Z E J D K Q pc k ls st M := by
  intro p e s m args below meth c H locs Ls hF hP hL
  exact W.widen h (by omega) (k0 p e s m args below meth c H locs Ls hF hP hL)
end ZT
abbrev zmax (x y : Int32) : Int32 := if x < y then y else x
abbrev zmin (x y : Int32) : Int32 := if y < x then y else x
abbrev zushr (x y : Int32) : Int32 := (x.toUInt32 >>> (y.toUInt32 &&& Int32.toUInt32 31)).toInt32
abbrev zlushr (x : Int64) (y : Int32) : Int64 := (x.toUInt64 >>> (y.toInt64.toUInt64 &&& Int64.toUInt64 63)).toInt64
abbrev zlshl (x : Int64) (y : Int32) : Int64 := x <<< (y.toInt64 &&& 63)
abbrev zlshr (x : Int64) (y : Int32) : Int64 := x >>> (y.toInt64 &&& 63)
abbrev zrem (x y : Int32) : Int32 := x - x / y * y
abbrev zi2c (x : Int32) : Int32 := (x.toUInt32 % 65536).toInt32
theorem zbool {v : Int32} (h : v = 0 ∨ v = 1) : narrow .boolean (.int v) = .int v := by
  rcases h with rfl | rfl <;> decide
/-- the courts, the laws -/
def zIsC (c : Nat) : Prop := ∃ i, i < 15 ∧ c = 61 + 14 * i
def zIsL (b : Nat) : Prop := b = 22 ∨ b = 29 ∨ b = 36
theorem zIsC_court {i : Int32} (h : vp_in i 12) : zIsC (zcourt i.toNatClampNeg) := by
  have hlt : i.toNatClampNeg < 12 := Nat.not_le.mp fun q => h (Or.inr q)
  exact ⟨i.toNatClampNeg + 3, by omega, by unfold zcourt; omega⟩
/-- words of the tables, by chunk and place -/
theorem zq_1 {w : Cond} (i : Nat) (h : tables_1_1[i]? = some w) (hg : zGd w = true) : w ∈ zT := List.mem_filter.mpr ⟨List.mem_append_right _ (List.mem_append_left _ (List.mem_of_getElem? h)), hg⟩
theorem zq_2 {w : Cond} (i : Nat) (h : tables_1_2[i]? = some w) (hg : zGd w = true) : w ∈ zT := List.mem_filter.mpr ⟨List.mem_append_right _ (List.mem_append_right _ (List.mem_append_left _ (List.mem_of_getElem? h))), hg⟩
theorem zq_3 {w : Cond} (i : Nat) (h : tables_1_3[i]? = some w) (hg : zGd w = true) : w ∈ zT := List.mem_filter.mpr ⟨List.mem_append_right _ (List.mem_append_right _ (List.mem_append_right _ (List.mem_append_left _ (List.mem_of_getElem? h)))), hg⟩
theorem zq_4 {w : Cond} (i : Nat) (h : tables_1_4[i]? = some w) (hg : zGd w = true) : w ∈ zT := List.mem_filter.mpr ⟨List.mem_append_right _ (List.mem_append_right _ (List.mem_append_right _ (List.mem_append_right _ (List.mem_append_left _ (List.mem_of_getElem? h))))), hg⟩
theorem zq_5 {w : Cond} (i : Nat) (h : tables_1_5[i]? = some w) (hg : zGd w = true) : w ∈ zT := List.mem_filter.mpr ⟨List.mem_append_right _ (List.mem_append_right _ (List.mem_append_right _ (List.mem_append_right _ (List.mem_append_right _ (List.mem_append_left _ (List.mem_of_getElem? h)))))), hg⟩
theorem zq_6 {w : Cond} (i : Nat) (h : tables_1_6[i]? = some w) (hg : zGd w = true) : w ∈ zT := List.mem_filter.mpr ⟨List.mem_append_right _ (List.mem_append_right _ (List.mem_append_right _ (List.mem_append_right _ (List.mem_append_right _ (List.mem_append_right _ (List.mem_append_left _ (List.mem_of_getElem? h))))))), hg⟩
theorem zq_7 {w : Cond} (i : Nat) (h : tables_1_7[i]? = some w) (hg : zGd w = true) : w ∈ zT := List.mem_filter.mpr ⟨List.mem_append_right _ (List.mem_append_right _ (List.mem_append_right _ (List.mem_append_right _ (List.mem_append_right _ (List.mem_append_right _ (List.mem_append_right _ (List.mem_append_left _ (List.mem_of_getElem? h)))))))), hg⟩
theorem zq_8 {w : Cond} (i : Nat) (h : tables_1_8[i]? = some w) (hg : zGd w = true) : w ∈ zT := List.mem_filter.mpr ⟨List.mem_append_right _ (List.mem_append_right _ (List.mem_append_right _ (List.mem_append_right _ (List.mem_append_right _ (List.mem_append_right _ (List.mem_append_right _ (List.mem_append_right _ (List.mem_append_left _ (List.mem_of_getElem? h))))))))), hg⟩
theorem zq_9 {w : Cond} (i : Nat) (h : tables_1_9[i]? = some w) (hg : zGd w = true) : w ∈ zT := List.mem_filter.mpr ⟨List.mem_append_right _ (List.mem_append_right _ (List.mem_append_right _ (List.mem_append_right _ (List.mem_append_right _ (List.mem_append_right _ (List.mem_append_right _ (List.mem_append_right _ (List.mem_append_right _ (List.mem_append_left _ (List.mem_of_getElem? h)))))))))), hg⟩
theorem zq_10 {w : Cond} (i : Nat) (h : tables_1_10[i]? = some w) (hg : zGd w = true) : w ∈ zT := List.mem_filter.mpr ⟨List.mem_append_right _ (List.mem_append_right _ (List.mem_append_right _ (List.mem_append_right _ (List.mem_append_right _ (List.mem_append_right _ (List.mem_append_right _ (List.mem_append_right _ (List.mem_append_right _ (List.mem_append_right _ (List.mem_of_getElem? h)))))))))), hg⟩
/-- 'selects' of a private method -/
theorem zq_s {q : MethodName × Nat} (h : q ∈ lw_privs) : Cond.selects q.1.cls q.1 q.1 ∈ zT := List.mem_filter.mpr ⟨List.mem_append_left _ (List.mem_map.mpr ⟨q, h, rfl⟩), rfl⟩
theorem zall_zT {L : List Cond} (h : L.all (fun w => decide (w ∈ lw_tbl) && zGd w) = true) : ∀ w ∈ L, w ∈ zT := by
  intro w hw
  have h1 := List.all_eq_true.mp h w hw
  simp only [Bool.and_eq_true, decide_eq_true_eq] at h1
  exact List.mem_filter.mpr h1
theorem zne_toInt {x v : Int32} {n : Int} (h : ¬ x = v) (hv : v.toInt = n) : x.toInt ≠ n := fun z => h (Int32.toInt_inj.mp (z.trans hv.symm))
section ZU
variable {E : zEv} {J J1 : zJ} {D K K1 pc k : Nat} {Q : zO → zM → Prop} {ls ls' st : List Value} {M : zM} {px : String → zM → Prop}
theorem z_ldcwS {idx i n : Nat} {tx : String} (hd : decode J.2.1 pc = .ok (.ldc_w idx, 3)) (hz : zStrs[i]? = some (J.1.cls, idx, tx, n)) (k0 : Z E J D K Q (pc + 3) k ls (.ref (271 + n) :: st) M) : Z E J D K Q pc k ls st M := by
  intro p e s m args below meth c H locs Ls hF hP hL
  have hZ := hF.X.2.2.2.2.2.2.2.2.2.2 i _ hz
  have hb := hF.2.1
  intro T hT X
  obtain ⟨t, a1, b1⟩ := k0 p e s m args below meth c H locs Ls hF hP hL T hT X
  exact ⟨t, X.ldcStringW hF.1 hF.own (text := tx) (a := zaK E n) hZ.1 hZ.2 (g := F0 m pc Ls (st.map (zV E))) rfl (by rw [hb]; exact hd) t a1, b1⟩
/-- entry idx of own's pool is the private static method J1 of a nest mate -/
def zInvN (own : String) (idx : Nat) (J1 : zJ) (n : Nat) (host : String) : Prop := Cond.methodLinkNest own idx J1.1 host ∈ zT ∧ Cond.static J1.1 ∈ zT ∧ Cond.initialized J1.1.cls ∈ zT ∧ Cond.code J1.1 J1.2.1 J1.2.2.1 J1.2.2.2.1 ∈ zT ∧ J1.1.cls ≠ "java/lang/invoke/MethodHandle" ∧ J1.1.cls ≠ "java/lang/invoke/VarHandle" ∧ (parseMethodDescriptor J1.1.desc).map (fun d => d.parameters.length) = some n ∧ J1.2.2.1 ≤ 45
theorem zMet_of {l : Launch} {y : MethodName} {ws : List Cond} {rm : Room} {Pc : Array Value → State → Prop} {Qc : Array Value → State → Outcome → State → Prop} {XC : String → State → State → Prop} {mc ms : Nat} {free : Addr → Prop} (h : vx_Met l y ws rm Pc Qc XC mc ms free) (hx : ∀ X st t, ¬ XC X st t) : Met l y ws rm Pc Qc mc ms free := by
  intro p e h1 h2 h3 s m args below h4 h5 h6 h7
  obtain ⟨n, o, g1, g2, g3, g4⟩ := h p e h1 h2 h3 s m args below h4 h5 h6 h7
  refine ⟨n, o, g1, g2, g3, ?_⟩
  rcases g4 with g4 | ⟨q, -, X, ce, L, hX, -⟩
  · exact g4
  · exact absurd hX (hx _ _ _)
theorem z_callNi {idx n : Nat} {As stk : List Value} {host : String} {post1 : Int32 → zM → Prop} (hd : decode J.2.1 pc = .ok (.invokestatic idx, 3)) (hi : zInvN J.1.cls idx J1 n host) (hst : stk = As.reverse ++ st) (hn : As.length = n) (hw : (st.map fun v => v.category).sum ≤ 8) (hk : k ≤ K)
    (hM : zCi E J1 D 0 As M post1 (fun _ _ => False)) (kr : ∀ x M', post1 x M' → Z E J (D + 1) K Q (pc + 3) k ls (.int x :: st) M') : Z E J (D + 1) K Q pc k ls stk M := by
  intro p e s m args below meth c H locs Ls hF hP hL
  obtain ⟨hl, hsta, hini, hcode, hy1, hy2, hpar, hmx⟩ := hi
  have hM' := zMet_of hM (fun X st t ⟨M', hq, _⟩ => hq)
  have cn : va_CN (zR (D + 1) K) s args J.1.cls idx J1.1 host J1.2.1 J1.2.2.1 J1.2.2.2.1 (.code J1.1 J1.2.1 J1.2.2.1 J1.2.2.2.1 :: zT) (zR D 0) 0 (6 * 0) n := by
    refine ⟨⟨rfl, rfl, by show D + 8 + 1 ≤ D + 1 + 8; omega, by show 8 + (J1.2.2.1 + 11) + (64 * D + 128) ≤ 64 * (D + 1) + 128; omega, ?_, List.mem_cons_self⟩, hF.w hcode, hF.w hini, ⟨hy1, hy2⟩, ?_, hF.w hl⟩
    · intro w hw a' U hW
      rcases List.mem_cons.mp hw with rfl | hw
      · exact zT_warm hW hF.X.1 _ hcode
      · exact zT_warm hW hF.X.1 w hw
    · intro sig h
      rw [h] at hpar
      exact (Option.some.inj hpar).symm
  have hr := va_runSN (locs := locs) (cells := k) (slots := 6 * k) (below := below) (e := e) (meth := meth) (As := As.map (zV E)) (rest := st.map (zV E)) (g := F0 m pc Ls (stk.map (zV E))) ⟨hF.1, hF.2.1, hF.2.2.2.1, hF.own, hF.X.1⟩ hM' ⟨cn, hF.w hsta, trivial⟩ ⟨zblind, zPre hF hP As⟩ rfl (by rw [List.length_map]; exact hn) hL.1 (by rw [hst]; simp) (by show 2 * 0 + _ ≤ 8; rw [zmap_cat]; omega) hd ⟨hk, by show 6 * k + 6 * 0 ≤ 6 * K; omega⟩
  intro T hT X
  obtain ⟨v, st₀, t, T', L, h0, X', hLs, e1, e2, ⟨v', M', hv, hQ1, hP1, hF1⟩, go⟩ := hr T hT X
  have ev : v = v'.map (zV E) := by injection hv
  subst ev
  match v', hQ1 with
  | some (.int x), hQ1 =>
    have hS1 := (vx_keep h0 e1 hP.2 (fun _ _ h => h) (fun _ h => h) hLs hF1).2.2
    obtain ⟨t2, a1, b1⟩ := kr x M' hQ1 p e s m args below meth c T'.heap (locs ++ L) Ls hF ⟨by rw [e1]; exact hP1, hS1⟩ hL T' rfl X'
    exact ⟨t2, go t2 a1, b1⟩
theorem z_callStr {idx n w : Nat} {As stk : List Value} {Q1 : zO → zM → Prop} (hd : decode J.2.1 pc = .ok (.invokevirtual idx, 3)) (hi : zInv J.1.cls idx J1 n) (hcl : J1.1.cls = "java/lang/String") (hst : stk = As.reverse ++ .ref (271 + w) :: st) (hn : As.length = n) (hs : w < zLitN) (hw : (st.map fun v => v.category).sum ≤ 8) (hk : k + K1 ≤ K)
    (hM : zC E J1 D K1 (.ref (271 + w) :: As) M Q1) (kr : ∀ v M', Q1 (.inl v) M' → Z E J (D + 1) K Q (pc + 3) (k + K1) ls (v.toList ++ st) M') (kx : ∀ X M', Q1 (.inr X) M' → Q (.inr X) M') (hnil : J.2.2.2.2 = [] := by rfl) : Z E J (D + 1) K Q pc k ls stk M := by
  intro p e s m args below meth c H locs Ls hF hP hL
  obtain ⟨hl, hin, hse, hini, hcode, hy1, hy2, hpar, hmx⟩ := hi
  have cb := zCallB (D := D) (K := K) (K1 := K1) hF hl hini hcode hy1 hy2 hpar hmx
  have hrv := vk_recv hF.X.2.2.2.2.2.2.1 hs hP.2
  rw [← hcl] at hrv
  refine zAfter hF hP hL hk (vx_runV (As := As.map (zV E)) (b := zaK E w) (C := J1.1.cls) (g := F0 m pc Ls (stk.map (zV E))) ⟨hF.1, hF.2.1, hF.2.2.2.1, hF.own, hF.X.1⟩ hM ⟨cb, hF.w hin, hF.w hse⟩ ⟨zblind, hrv, zPre hF hP (.ref (271 + w) :: As)⟩ rfl (by rw [List.length_map]; exact hn) hL.1 ?_ ?_ hd ⟨hk, ?_⟩) kr kx hnil
  · rw [hst]; simp [zV]
  · show 2 * 0 + _ ≤ 8
    rw [zmap_cat]; omega
  · show 6 * k + 6 * K1 ≤ 6 * K
    omega
theorem z_callStri {idx n w : Nat} {As stk : List Value} {post1 : Int32 → zM → Prop} (hd : decode J.2.1 pc = .ok (.invokevirtual idx, 3)) (hi : zInv J.1.cls idx J1 n) (hcl : J1.1.cls = "java/lang/String") (hst : stk = As.reverse ++ .ref (271 + w) :: st) (hn : As.length = n) (hs : w < zLitN) (hw : (st.map fun v => v.category).sum ≤ 8) (hk : k + K1 ≤ K) (kx : ∀ X M', px X M' → Q (.inr X) M')
    (hM : zCi E J1 D K1 (.ref (271 + w) :: As) M post1 px) (kr : ∀ x M', post1 x M' → Z E J (D + 1) K Q (pc + 3) (k + K1) ls (.int x :: st) M') (hnil : J.2.2.2.2 = [] := by rfl) : Z E J (D + 1) K Q pc k ls stk M :=
  z_callStr hd hi hcl hst hn hs hw hk hM (fun v M' h => by
    match v, h with
    | some (.int x), h => exact kr x M' h) (fun X M' h => kx X M' h) hnil
end ZU
