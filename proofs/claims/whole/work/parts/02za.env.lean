/-! ===== Z: the environment, frames, the judgement ===== -/
/-- words that stay, whatever is warmed -/
def zGd : Cond → Bool
  | .fieldLinkNest _ _ _ _ _ _ => true
  | .methodLinkNest _ _ _ _ => true
  | .declares _ => true
  | .castable _ _ => true
  | w => goodWord w
theorem zCast_warm {a b : String} {s U : State} (hW : s.WarmedH U.vm) (hZ : va_Nw (.castable a b) s) : va_Nw (.castable a b) U := va_tabs rfl (rfl : (s.setVm U.vm).vm = U.vm) (by rw [Cond.castable_setVm hW.alike]; exact hZ)
def zT : List Cond := lw_tbl.filter zGd
theorem zGd_warm {args a' : Array Value} {s U : State} {w : Cond} (hW : s.WarmedH U.vm) (hg : zGd w = true) (h : w.before args s = true) : w.before a' U = true := by
  have key : goodWord w = true → w.before a' U = true := fun h1 => word_at hW (good_of_word h1) h
  cases w <;> first | exact key hg | exact va_Nw.use rfl (va_Nw.warmF hW (va_Nw.of rfl h)) | exact va_Nw.use rfl (va_Nw.warmM hW (va_Nw.of rfl h)) | exact va_Nw.use rfl (va_Nw.warmD hW (va_Nw.of rfl h)) | exact va_Nw.use rfl (zCast_warm hW (va_Nw.of rfl h))
theorem zT_warm {args a' : Array Value} {s U : State} (hW : s.WarmedH U.vm) (h : ∀ w ∈ zT, w.before args s = true) : ∀ w ∈ zT, w.before a' U = true := fun w hw => zGd_warm hW (List.mem_filter.mp hw).2 (h w hw)
theorem zT_of {w : Cond} (i : Nat) (h : lw_tbl[i]? = some w) (hg : zGd w = true) : w ∈ zT := List.mem_filter.mpr ⟨List.mem_of_getElem? h, hg⟩
/-- classes that no cast joins -/
def zNcs (U : State) : Prop := va_Nc "java/util/NoSuchElementException" "java/lang/IndexOutOfBoundsException" U ∧ va_Nc "java/lang/UnsupportedOperationException" "java/lang/IllegalArgumentException" U ∧ va_Nc "java/lang/IllegalArgumentException" "java/lang/IndexOutOfBoundsException" U
theorem zNcs.moved {u U : State} (hvm : u.vm.Alike U.vm) (h : zNcs u) : zNcs U := ⟨va_Nc.moved hvm h.1, va_Nc.moved hvm h.2.1, va_Nc.moved hvm h.2.2⟩
/-- what is old and stays: two statics of Throwable, the flag of String, the literals -/
def zOld (E : zEv) (U : State) (H : Heap) : Prop :=
  vx_Zq Bundle.tN "UNASSIGNED_STACK" Bundle.steD (zA E) U H ∧ vx_Zq Bundle.tN "SUPPRESSED_SENTINEL" Bundle.listD (zA E) U H ∧
  va_Z "java/lang/String" "COMPACT_STRINGS" "Z" (.int 1) (zA E) U H ∧ vk_S zLitN zLitL zLitB (zaK E) (zaV E) (zA E) U H ∧ (va_Z "jdk/internal/util/Preconditions" "SIOOBE_FORMATTER" "Ljava/util/function/BiFunction;" .null (zA E) U H ∨ va_Z "jdk/internal/util/Preconditions" "SIOOBE_FORMATTER" "Ljava/util/function/BiFunction;" (.ref (zad E 401)) (zA E) U H) ∧ (va_X (zad E 400) (zLn E) (zxs E) U H ∧ ¬ zA E (zad E 400)) ∧ zNcs U ∧ ∀ (i : Nat) (q : String × Nat × String × Nat), zStrs[i]? = some q → vk_R q.1 q.2.1 q.2.2.1 (zaK E q.2.2.2) U
theorem zX_lt {b L : Nat} {xs : Nat → Int32} {U : State} {H : Heap} (h : va_X b L xs U H) : b < H.size := by
  obtain ⟨scr, h1, -⟩ := h
  exact (Array.getElem?_eq_some_iff.mp h1).1
theorem zOld.go {E : zEv} {s U : State} {H H1 : Heap} (h : zOld E s H) (hW : s.WarmedH U.vm) (hq : ∀ a : Nat, a < H.size → ¬ zA E a → H1[a]? = H[a]?) : zOld E U H1 :=
  ⟨(h.1.moved hW.alike).kept hq, (h.2.1.moved hW.alike).kept hq, (h.2.2.1.moved hW.alike).kept hq, (h.2.2.2.1.moved hW.alike).kept hq, h.2.2.2.2.1.imp (fun z => (z.moved hW.alike).kept hq) (fun z => (z.moved hW.alike).kept hq), ⟨(h.2.2.2.2.2.1.1.moved hW.alike).kept (hq _ (zX_lt h.2.2.2.2.2.1.1) h.2.2.2.2.2.1.2), h.2.2.2.2.2.1.2⟩, h.2.2.2.2.2.2.1.moved hW.alike, fun i q hi => (h.2.2.2.2.2.2.2 i q hi).warm hW⟩
theorem zOld.same {E : zEv} {s U : State} {H : Heap} (h : zOld E s H) (hv : U.vm = s.vm) : zOld E U H :=
  ⟨h.1.moved (by rw [hv]; exact Vm.Alike.refl _), h.2.1.moved (by rw [hv]; exact Vm.Alike.refl _), h.2.2.1.moved (by rw [hv]; exact Vm.Alike.refl _), h.2.2.2.1.moved (by rw [hv]; exact Vm.Alike.refl _), h.2.2.2.2.1.imp (fun z => z.moved (by rw [hv]; exact Vm.Alike.refl _)) (fun z => z.moved (by rw [hv]; exact Vm.Alike.refl _)), ⟨h.2.2.2.2.2.1.1.moved (by rw [hv]; exact Vm.Alike.refl _), h.2.2.2.2.2.1.2⟩, h.2.2.2.2.2.2.1.moved (by rw [hv]; exact Vm.Alike.refl _), fun i q hi => (h.2.2.2.2.2.2.2 i q hi).same hv⟩
/-- the facts of a frame's first state -/
def zX (E : zEv) (args : Array Value) (s : State) : Prop := (∀ w ∈ zT, w.before args s = true) ∧ va_K (zD E) vwCl (zts E) s ∧ zb E ≤ s.heap.size ∧ zOld E s s.heap
theorem zX.go {E : zEv} {args a' : Array Value} {s U : State} {locs : List Loc} (h : zX E args s) (hW : s.WarmedH U.vm) (hS : va_S (zA E) s.heap U.heap locs) : zX E a' U :=
  ⟨zT_warm hW h.1, h.2.1.moved hW.alike, Nat.le_trans h.2.2.1 hS.1, h.2.2.2.go hW hS.2.1⟩
/-- the addresses are apart, and new -/
def zDj (E : zEv) : Prop := (∀ i j : Nat, i < 271 → j < 271 → zad E i = zad E j → i = j) ∧ ∀ i : Nat, i < 271 → zb E ≤ zad E i
theorem zDj.D {E : zEv} (h : zDj E) (M : zM) : va_D (zA E) (zW E M) := by
  have key : ∀ (i : Nat) (p : Nat × va_E), (zW E M)[i]? = some p → i < 271 ∧ p.1 = zad E i := by
    intro i p hp
    simp [zW] at hp
    obtain ⟨a, ha, rfl⟩ := hp
    obtain ⟨h1, h2⟩ := List.getElem?_eq_some_iff.mp ha
    simp at h1 h2
    subst h2
    exact ⟨h1, rfl⟩
  refine ⟨fun i j p q hp hq he => ?_, fun k q hk => ?_⟩
  · obtain ⟨h1, e1⟩ := key i p hp
    obtain ⟨h2, e2⟩ := key j q hq
    exact h.1 i j h1 h2 (by rw [← e1, ← e2]; exact he)
  · obtain ⟨h1, e1⟩ := key k q hk
    show zb E ≤ q.1
    rw [e1]
    exact h.2 k h1
/-- a method: its name, code, locals, return type, table of handlers -/
abbrev zJ : Type := MethodName × ByteArray × Nat × Option FieldType × List (Nat × Nat × Nat × Nat)
def zF (E : zEv) (J : zJ) (p : Program) (s : State) (m : MethodId) (args : Array Value) (meth : Method) (c : Code) : Prop :=
  p.tables.exec = Jvm.exec ∧ c.code = J.2.1 ∧ meth.sig.returnType = J.2.2.2.1 ∧ c.maxLocals = J.2.2.1 ∧ s.vm.findClass J.1.cls = some m.cls ∧ meth.locks = false ∧ c.exceptionTable.toList = tableOf J.2.2.2.2 ∧ zX E args s ∧ zDj E ∧ (zl E).stackTraces = false
/-- an unset local -/
abbrev zU : Value := .retAddr 0
def zL (E : zEv) (nL : Nat) (Ls : Array Slot) (ls : List Value) : Prop := Ls.size = nL ∧ ls.length = nL ∧ lv_wf Ls ∧ ∀ (i : Nat) (v : Value), ls[i]? = some v → v ≠ zU → Ls[i]? = some (.val (zV E v))
def zP (E : zEv) (M : zM) (s : State) (H : Heap) (locs : List Loc) : Prop := va_P (zD E) vwCl (zW E M) H ∧ va_S (zA E) s.heap H locs
/-- how a method ends: by a value, or by a throw -/
abbrev zO : Type := Option Value ⊕ String
def zQc (E : zEv) (Q : zO → zM → Prop) : Array Value → State → Outcome → State → Prop := fun _ st o t =>
  ∃ (v : Option Value) (M : zM), o = .returned (v.map (zV E)) ∧ Q (.inl v) M ∧ va_P (zD E) vwCl (zW E M) t.heap ∧ va_F (zA E) st t
def zXC (E : zEv) (Q : zO → zM → Prop) : String → State → State → Prop := fun X st t =>
  ∃ M : zM, Q (.inr X) M ∧ va_P (zD E) vwCl (zW E M) t.heap ∧ va_F (zA E) st t
/-- room for D frames above, K exceptions -/
def zR (D K : Nat) : Room := { frames := D + 8, cells := K, slots := 6 * K, locals := 64 * D + 128 }
/-- the judgement: at pc, with these locals and this stack, k exceptions counted, the method comes to its end with Q -/
def Z (E : zEv) (J : zJ) (D K : Nat) (Q : zO → zM → Prop) (pc k : Nat) (ls st : List Value) (M : zM) : Prop :=
  ∀ (p : Program) (e : Env) (s : State) (m : MethodId) (args : Array Value) (below : List Frame) (meth : Method) (c : Code) (H : Heap) (locs : List Loc) (Ls : Array Slot),
    zF E J p s m args meth c → zP E M s H locs → zL E J.2.2.1 Ls ls →
    W p (zl E) e (zR D K) s m args below meth c H locs k (6 * k) (vx_MQ below (zQc E Q) (zXC E Q) args s K (6 * K) (zA E)) (F0 m pc Ls (st.map (zV E)))
/-- a method's contract -/
def zC (E : zEv) (J : zJ) (D K : Nat) (args : List Value) (M : zM) (Q : zO → zM → Prop) : Prop :=
  vx_Met (zl E) J.1 (.code J.1 J.2.1 J.2.2.1 J.2.2.2.1 :: zT) (zR D K) (fun a U => a = (args.map (zV E)).toArray ∧ va_P (zD E) vwCl (zW E M) U.heap ∧ va_K (zD E) vwCl (zts E) U ∧ zb E ≤ U.heap.size ∧ zOld E U U.heap ∧ zDj E ∧ (zl E).stackTraces = false) (zQc E Q) (zXC E Q) K (6 * K) (zA E)
/-- the locals at a method's beginning -/
def zArgs : List Value → List Value
  | [] => []
  | v :: vs => if v.category = 2 then v :: zU :: zArgs vs else v :: zArgs vs
def zBeg (nL : Nat) (vs : List Value) : List Value := zArgs vs ++ List.replicate (nL - (zArgs vs).length) zU
theorem zV_cat (E : zEv) (v : Value) : (zV E v).category = v.category := by cases v <;> rfl
