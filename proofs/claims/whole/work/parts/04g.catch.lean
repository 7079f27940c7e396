/-! ===== a throw that comes into a frame with a table of its own: the rows ahead pass, one takes it ===== -/
def zkTo (e : Env) (S : State) (f : JFrame) (a : Addr) (t : List ExceptionTableEntry) (h : Handler) (vm' : Vm) : Prop :=
  ∀ (Q : Handler → Pre) (B : CtlPost) (d : Bool) (acts : List Action), wp (findHandler.go f a t) Q B e d acts S ↔ Q h d acts (S.setVm vm')
theorem zk_hit {e : Env} {S : State} {f : JFrame} {a : Addr} {x : ExceptionTableEntry} {t : List ExceptionTableEntry} {c : ClassId} {cell : Cell} (hx : covers x f.pc = true) (h0 : x.catchType ≠ 0)
    (hl : S.vm.ClassLinks e.platform f.method.cls x.catchType c) (hcell : S.heap[a]? = some cell) (hobj : ∀ k, cell.vm ≠ .statics k) (hk : ∃ k, S.vm.classes[cell.cls]? = some k) (hc : ∃ k, S.vm.classes[c]? = some k) (hfit : S.vm.assignable cell.cls c = true) :
    zkTo e S f a (x :: t) (.found x.handlerPc) (S.vm.noted f.method.cls x.catchType (.cls c)) := by
  intro Q B d acts
  simp only [covers] at hx
  obtain ⟨ha, ht⟩ := (resolveClass_links e.toSetting hl).op (op := VmOp.resolveClass f.method.cls x.catchType) rfl
  have hal : S.vm.Alike (S.vm.noted f.method.cls x.catchType (.cls c)) := (Vm.Alike.refl S.vm).noted _ _ _
  obtain ⟨k1, hk1⟩ := hk
  obtain ⟨k2, hk2⟩ := hc
  obtain ⟨k1', hk1', -⟩ := hal.2.2 _ _ hk1
  obtain ⟨k2', hk2', -⟩ := hal.2.2 _ _ hk2
  have hf2 : (S.vm.noted f.method.cls x.catchType (.cls c)).assignable cell.cls c = true := by rw [hal.assignable]; exact hfit
  simp [findHandler.go, hx, h0, ha, ht, hcell, hobj, hk1', hk2', hf2, VmOp.dirties, VmOp.acts]
theorem zk_miss {e : Env} {S : State} {f : JFrame} {a : Addr} {x : ExceptionTableEntry} {t : List ExceptionTableEntry} {c : ClassId} {cell : Cell} {h : Handler} {vm' : Vm} (hx : covers x f.pc = true) (h0 : x.catchType ≠ 0)
    (hl : S.vm.ClassLinks e.platform f.method.cls x.catchType c) (hcell : S.heap[a]? = some cell) (hobj : ∀ k, cell.vm ≠ .statics k) (hk : ∃ k, S.vm.classes[cell.cls]? = some k) (hc : ∃ k, S.vm.classes[c]? = some k) (hno : S.vm.assignable cell.cls c = false)
    (hr : zkTo e (S.setVm (S.vm.noted f.method.cls x.catchType (.cls c))) f a t h vm') : zkTo e S f a (x :: t) h vm' := by
  intro Q B d acts
  simp only [covers] at hx
  obtain ⟨ha, ht⟩ := (resolveClass_links e.toSetting hl).op (op := VmOp.resolveClass f.method.cls x.catchType) rfl
  have hal : S.vm.Alike (S.vm.noted f.method.cls x.catchType (.cls c)) := (Vm.Alike.refl S.vm).noted _ _ _
  obtain ⟨k1, hk1⟩ := hk
  obtain ⟨k2, hk2⟩ := hc
  obtain ⟨k1', hk1', -⟩ := hal.2.2 _ _ hk1
  obtain ⟨k2', hk2', -⟩ := hal.2.2 _ _ hk2
  have hn2 : (S.vm.noted f.method.cls x.catchType (.cls c)).assignable cell.cls c = false := by rw [hal.assignable]; exact hno
  have key : wp (findHandler.go f a (x :: t)) Q B e d acts S ↔ wp (findHandler.go f a t) Q B e d acts (S.setVm (S.vm.noted f.method.cls x.catchType (.cls c))) := by
    simp [findHandler.go, hx, h0, ha, ht, hcell, hobj, hk1', hk2', hn2, VmOp.dirties, VmOp.acts]
  rw [key]
  exact hr Q B d acts
section ZK
variable {p : Program} {l : Launch} {e : Env} {R : Room} {s : State} {m : MethodId} {args : Array Value} {below : List Frame} {meth : Method} {c : Code} {H : Heap} {locs : List Loc} {cells slots : Nat} {Q : State → Prop} {pc : Nat} {ls : Array Slot} {rest : List Value}
/-- the search over this frame's table -/
theorem zk_find {E own name : String} {ce : Cell} {q : Addr} {g : JFrame} (hpl : e.platform.magicAccessors = ({} : Platform).magicAccessors) (hgm : g.method = m) (hown : s.vm.findClass own = some m.cls) (hcl : s.vm.findClass E = some ce.cls) (hv : ce.vm = .none)
    (x : ExceptionTableEntry) (suf : List ExceptionTableEntry) (hx : covers x g.pc = true) (h0 : x.catchType ≠ 0) (hlink : (Cond.classLink own x.catchType name).before args s = true) (hcast : (Cond.castable E name).before args s = true) :
    ∀ (pre : List ExceptionTableEntry) (S : State), (∀ z ∈ pre, covers z g.pc = true ∧ z.catchType ≠ 0 ∧ ∃ nm : String, (Cond.classLink own z.catchType nm).before args s = true ∧ va_Nc E nm s) → s.WarmedH S.vm → S.heap[q]? = some ce →
      ∃ vm', s.WarmedH vm' ∧ zkTo e S g q (pre ++ x :: suf) (.found x.handlerPc) vm' := by
  have hobj : ∀ k, ce.vm ≠ .statics k := fun k h => by rw [hv] at h; cases h
  obtain ⟨k9, h9, -⟩ := Vm.findClass_spec hcl
  intro pre
  induction pre with
  | nil =>
    intro S _ hW hcell
    obtain ⟨c3, c4, hc3, hc4, hasg⟩ := Cond.castable_spec hcast
    cases Option.some.inj (hc3.symm.trans hcl)
    obtain ⟨c5, hc5, hl5⟩ := Cond.classLink_spec hown hlink e.platform hpl
    cases Option.some.inj (hc4.symm.trans hc5)
    obtain ⟨dk, _, _, kt, hd, _, _, _, _, hkt, _, hopen⟩ := hl5.here
    obtain ⟨kt', hkt', -⟩ := hW.alike.2.2 _ _ hkt
    obtain ⟨k0', hk0', -⟩ := hW.alike.2.2 _ _ h9
    refine ⟨_, hW.noted hd hopen (State.rightAt_cls hl5), ?_⟩
    have := zk_hit (e := e) (S := S) (f := g) (a := q) (x := x) (t := suf) (c := c4) (cell := ce) hx h0 (by rw [hgm]; exact hW.classLinks hl5) hcell hobj ⟨k0', hk0'⟩ ⟨kt', hkt'⟩ (by rw [hW.alike.assignable]; exact hasg)
    rw [hgm] at this
    exact this
  | cons y ys ih =>
    intro S hpass hW hcell
    obtain ⟨hcov, hy0, nm, hl1, hn1⟩ := hpass y List.mem_cons_self
    obtain ⟨c6, hc6, hl6⟩ := Cond.classLink_spec hown hl1 e.platform hpl
    obtain ⟨a8, b8, g1, g2, g3⟩ := hn1
    cases Option.some.inj (g1.symm.trans hcl)
    cases Option.some.inj (g2.symm.trans hc6)
    obtain ⟨dk, _, _, kt, hd, _, _, _, _, hkt, _, hopen⟩ := hl6.here
    obtain ⟨kt', hkt', -⟩ := hW.alike.2.2 _ _ hkt
    obtain ⟨k0', hk0', -⟩ := hW.alike.2.2 _ _ h9
    have hW2 : s.WarmedH (S.vm.noted m.cls y.catchType (.cls c6)) := hW.noted hd hopen (State.rightAt_cls hl6)
    obtain ⟨vm', hW', hq⟩ := ih (S.setVm (S.vm.noted m.cls y.catchType (.cls c6))) (fun z hz => hpass z (List.mem_cons_of_mem _ hz)) hW2 hcell
    refine ⟨vm', hW', ?_⟩
    exact zk_miss (c := c6) (cell := ce) hcov hy0 (by rw [hgm]; exact hW.classLinks hl6) hcell hobj ⟨k0', hk0'⟩ ⟨kt', hkt'⟩ (by rw [hW.alike.assignable]; exact g3) (by rw [hgm]; exact hq)
theorem zk_catch {own name : String} {E : String} {ce : Cell} {q : Addr} (hown : s.vm.findClass own = some m.cls) (pre : List ExceptionTableEntry) (x : ExceptionTableEntry) (suf : List ExceptionTableEntry) (hsplit : c.exceptionTable.toList = pre ++ x :: suf)
    (hpass : ∀ z ∈ pre, covers z pc = true ∧ z.catchType ≠ 0 ∧ ∃ nm : String, (Cond.classLink own z.catchType nm).before args s = true ∧ va_Nc E nm s) (hx : covers x pc = true) (h0 : x.catchType ≠ 0)
    (hlink : (Cond.classLink own x.catchType name).before args s = true) (hcast : (Cond.castable E name).before args s = true) (hcell : H[q]? = some ce) (hv : ce.vm = .none) (hcl : s.vm.findClass E = some ce.cls)
    (kk : W p l e R s m args below meth c H locs cells slots Q (F0 m x.handlerPc ls [.ref q])) : vx_W p l e R s m args below meth c H locs cells slots Q (F0 m pc ls rest) q := by
  intro T hT X
  have hpl : e.platform.magicAccessors = ({} : Platform).magicAccessors := by rw [X.admits.platform]
  have hm : ((T.setTop (F0 m pc ls rest)).pushFrame (.throwing q)).vm.method? (F0 m pc ls rest).method = some meth := X.method'
  obtain ⟨vm', hW', hq⟩ := zk_find (g := F0 m pc ls rest) (q := q) hpl rfl hown hcl hv x suf hx h0 hlink hcast pre ((T.setTop (F0 m pc ls rest)).pushFrame (.throwing q)) hpass X.warmed (by rw [← hT] at hcell; exact hcell)
  obtain ⟨t, a1, b1⟩ := kk (T.setVm vm') hT (X.noted hW')
  refine ⟨t, ?_, b1⟩
  obtain ⟨hgo, hw⟩ := X.here.throwing q (g := F0 m pc ls rest)
  refine Steps.head hgo hw ?_
  rw [stepThread_throwing (frames_entered X.here.top _)]
  obtain ⟨g₀, hg⟩ := Option.isSome_iff_exists.mp X.here.top
  obtain ⟨r, hr⟩ := State.topJava?_eq_some.mp hg
  have hfind : ∀ (Q9 : Handler → Pre) (B9 : CtlPost) (d9 : Bool) (a9 : List Action), wp (findHandler (F0 m pc ls rest) q) Q9 B9 e d9 a9 ((T.setTop (F0 m pc ls rest)).pushFrame (.throwing q)) ↔ Q9 (.found x.handlerPc) d9 a9 (((T.setTop (F0 m pc ls rest)).pushFrame (.throwing q)).setVm vm') := fun Q9 B9 d9 a9 => by
    rw [W.findHandler_eq hm X.code, hsplit]
    exact hq Q9 B9 d9 a9
  have hst : (stepThrowing e ((T.setTop (F0 m pc ls rest)).pushFrame (.throwing q)) q (.java (F0 m pc ls rest) :: T.frames.tail)).1 = (((T.setTop (F0 m pc ls rest)).pushFrame (.throwing q)).setVm vm').setFrames (.java { F0 m pc ls rest with pc := x.handlerPc, stack := [.ref q] } :: T.frames.tail) := by
    simp only [stepThrowing, searchFrame, vmDo]
    generalize hres : Sem.go _ e false [] _ = res
    obtain ⟨as, rfl, ha⟩ := Sem.eq_ok_of hres (a := Handler.found x.handlerPc) (s' := ((T.setTop (F0 m pc ls rest)).pushFrame (.throwing q)).setVm vm') (acts' := []) (by simp [hfind _ _ _ _])
    rfl
  rw [hst]
  have hr' : (T.setVm vm').frames = .java g₀ :: r := hr
  have e1 : ((T.setTop (F0 m pc ls rest)).pushFrame (.throwing q)).setVm vm' = ((T.setVm vm').setTop (F0 m pc ls rest)).pushFrame (.throwing q) := rfl
  rw [State.setTop_of_frames _ hr'] at a1
  rw [e1, hr, List.tail_cons, State.pushFrame, State.setTop_of_frames _ hr', State.setFrames_setFrames, State.setFrames_setFrames]
  exact a1
end ZK
