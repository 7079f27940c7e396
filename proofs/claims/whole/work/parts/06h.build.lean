/-! ===== how the world is made: cells in the order of their making, from zb E on ===== -/
abbrev yEnt : Type := (Nat × List Value) ⊕ (Nat × Nat × (Nat → Int32) × (Nat → Option Nat))
def yArr (E : zEv) (t n : Nat) (f : Nat → Int32) (g : Nat → Option Nat) : va_E := match t with
  | 3 => .inl (ztc E 3, n, .inr (.inl (fun _ => 0)))
  | 4 => .inl (ztc E 4, n, .inr (.inr (.inr (.inr (fun j => (g j).map (zad E))))))
  | t => .inl (ztc E t, n, .inl f)
def yR (E : zEv) (e : yEnt) : va_E := match e with
  | .inl c => .inr (c.1, c.2.map (zV E))
  | .inr a => yArr E a.1 a.2.1 a.2.2.1 a.2.2.2
def yW (E : zEv) (ys : List yEnt) : va_W := ys.mapIdx (fun o e => (zad E o, yR E e))
def yS (E : zEv) (ys : List yEnt) (s : State) (H : Heap) (locs : List Loc) : Prop := va_P (zD E) vwCl (yW E ys) H ∧ H.size = zb E + ys.length ∧ va_S (zA E) s.heap H locs
/-- what a frame that makes things knows -/
def yF (E : zEv) (J : zJ) (p : Program) (s : State) (m : MethodId) (args : Array Value) (meth : Method) (c : Code) : Prop :=
  p.tables.exec = Jvm.exec ∧ c.code = J.2.1 ∧ meth.sig.returnType = J.2.2.2.1 ∧ c.maxLocals = J.2.2.1 ∧ s.vm.findClass J.1.cls = some m.cls ∧ meth.locks = false ∧ meth.name = J.1.name ∧ (∀ w ∈ zT, w.before args s = true) ∧ va_K (zD E) vwCl (zts E) s ∧ (zb E ≤ s.heap.size ∧ va_AO "BlushCourt$Court" s) ∧ ∀ o, zad E o = zb E + o
theorem yW_get {E : zEv} {ys : List yEnt} {o : Nat} {e : yEnt} (h : ys[o]? = some e) : (yW E ys)[o]? = some (zad E o, yR E e) := by simp [yW, h]
theorem yW_push (E : zEv) (ys : List yEnt) (e : yEnt) : yW E (ys ++ [e]) = yW E ys ++ [(zad E ys.length, yR E e)] := by simp [yW, List.mapIdx_append]
theorem yW_set (E : zEv) (ys : List yEnt) (o : Nat) (e : yEnt) : (yW E ys).set o (zad E o, yR E e) = yW E (ys.set o e) := by
  apply List.ext_getElem?
  intro i
  simp only [yW, List.getElem?_set, List.getElem?_mapIdx, List.length_mapIdx]
  by_cases h : o = i
  · subst h
    by_cases hl : o < ys.length
    · simp [hl]
    · simp [hl]
  · simp [h]
theorem yD {E : zEv} (ha : ∀ o, zad E o = zb E + o) (ys : List yEnt) : va_D (zA E) (yW E ys) := by
  have key : ∀ (i : Nat) (p : Nat × va_E), (yW E ys)[i]? = some p → p.1 = zb E + i := by
    intro i p hp
    simp [yW] at hp
    obtain ⟨a, -, rfl⟩ := hp
    exact ha i
  refine ⟨fun i j p q hp hq he => ?_, fun k q hk => ?_⟩
  · have h1 := key i p hp
    have h2 := key j q hq
    omega
  · have h1 := key k q hk
    show zb E ≤ q.1
    omega
section YR
variable {p : Program} {l : Launch} {e : Env} {R : Room} {s : State} {m : MethodId} {args : Array Value} {below : List Frame} {meth : Method} {c : Code} {H : Heap} {locs : List Loc} {cells slots : Nat} {Q : State → Prop} {pc : Nat} {ls : Array Slot} {rest : List Value}
variable {E : zEv} {J : zJ} {ys : List yEnt}
theorem y_new {C : String} {T : u_T} {N ci index : Nat} (hF : yF E J p s m args meth c) (hS : yS E ys s H locs) (hc : vwCl[ci]? = some (C, T, N)) (hin : ∀ w ∈ u_ws C T N, w ∈ zT) (ty : Nat → FieldType) (hty : ∀ k, k < N → parseFieldDescriptor (T k).2.2.1 = some (ty k)) (hcl : Cond.classLink J.1.cls index C ∈ zT) (hinst : Cond.instantiable C N ∈ zT) (hini : Cond.initialized C ∈ zT)
    (fs : List Value) (hfs : ∀ j, j < N → defaultValue (ty j) = vp_V (fs.map (zV E)) j) (hcells : cells + 1 ≤ R.cells) (hslots : slots + N ≤ R.slots) (hdg : decode J.2.1 pc = .ok (.new index, 3))
    (kk : ∀ H1 : Heap, yS E (ys ++ [.inl (ci, fs)]) s H1 locs → W p l e R s m args below meth c H1 locs (cells + 1) (slots + N) Q (F0 m (pc + 3) ls (.ref (zad E ys.length) :: rest))) : W p l e R s m args below meth c H locs cells slots Q (F0 m pc ls rest) := by
  obtain ⟨hx, hb, hr, hml, hown, hlk, hnm, hts, hK, hbz, ha⟩ := hF
  obtain ⟨hP, hz, hSS⟩ := hS
  have hKn := hK.1 ci _ hc
  have hq : zad E ys.length = H.size := by rw [ha, hz]
  refine W.newcK hx hb hown (hts _ hcl) (hts _ hinst) (hts _ hini) rfl hdg hcells hslots hKn.2.1 rfl fun H1 kC hkC e1 z1 o1 => ?_
  have hk : ∀ (k : Nat) (x : Nat × va_E), (yW E ys)[k]? = some x → H1[x.1]? = H[x.1]? := fun k x hx => o1 x.1 ((hP k x hx).lt)
  have := kk H1 ⟨?_, ?_, ?_⟩
  · rw [hq] at this
    exact this
  · rw [yW_push]
    refine (hP.kept hk).app (fun k x hx => ?_)
    have hz : k < 1 := (List.getElem?_eq_some_iff.mp hx).1
    rw [show k = 0 by omega] at hx
    cases hx
    refine ⟨_, hc, ?_⟩
    show t_OB (zad E ys.length) _ _ _ _ _
    rw [hq]
    exact (u_born ty hts hin hKn hkC e1 hty).to hfs
  · rw [z1, hz, List.length_append]; simp; omega
  · exact ⟨Nat.le_trans hSS.1 (by omega), fun x h1 h2 => (o1 x (Nat.lt_of_lt_of_le h1 hSS.1)).trans (hSS.2.1 x h1 h2), hSS.2.2⟩
theorem y_newa {atype : ArrayType} {t : Nat} (hF : yF E J p s m args meth c) (hS : yS E ys s H locs) (harr : Cond.arrayClass (newarray.typeOf atype) ∈ zT) (ht : (zts E)[t]? = some (ztc E t, newarray.typeOf atype)) {n : Int32} {N : Nat} (hv : yArr E t N (fun _ => 0) (fun _ => none) = .inl (ztc E t, N, if t = 3 then .inr (.inl (fun _ => 0)) else .inl (fun _ => 0)))
    (ha0 : ∀ cA : ClassId, vp_cell cA (N, if t = 3 then .inr (.inl (fun _ => 0)) else .inl (fun _ => 0)) = arrV cA N (fun _ => defaultValue (newarray.typeOf atype))) (hRA : va_RA s (ztc E t) (newarray.typeOf atype) → s.vm.findClass ("[" ++ (newarray.typeOf atype).toString) = some (ztc E t)) (hn : ¬ n < 0) (hN : n.toNatClampNeg = N) (hbytes : N * componentBytes (newarray.typeOf atype) ≤ 536870912) (hcells : cells + 1 ≤ R.cells) (hslots : slots + N ≤ R.slots) (hdg : decode J.2.1 pc = .ok (.newarray atype, 2))
    (kk : ∀ H1 : Heap, yS E (ys ++ [.inr (t, N, (fun _ => 0), (fun _ => none))]) s H1 locs → W p l e R s m args below meth c H1 locs (cells + 1) (slots + N) Q (F0 m (pc + 2) ls (.ref (zad E ys.length) :: rest))) : W p l e R s m args below meth c H locs cells slots Q (F0 m pc ls (.int n :: rest)) := by
  obtain ⟨hx, hb, hr, hml, hown, hlk, hnm, hts, hK, hbz, ha⟩ := hF
  obtain ⟨hP, hz, hSS⟩ := hS
  have hq : zad E ys.length = H.size := by rw [ha, hz]
  refine va_newaK hx hb (hts _ harr) rfl hdg rfl hn hN hbytes hcells hslots rfl fun H1 cA e1 z1 o1 hAr hNm => ?_
  have hcA : cA = ztc E t := Option.some.inj (hNm.symm.trans (hRA (hK.2 t _ ht).2))
  subst hcA
  have hk : ∀ (k : Nat) (x : Nat × va_E), (yW E ys)[k]? = some x → H1[x.1]? = H[x.1]? := fun k x hx => o1 x.1 ((hP k x hx).lt)
  have := kk H1 ⟨?_, ?_, ?_⟩
  · rw [hq] at this
    exact this
  · rw [yW_push]
    refine (hP.kept hk).app (fun k x hx => ?_)
    have hz : k < 1 := (List.getElem?_eq_some_iff.mp hx).1
    rw [show k = 0 by omega] at hx
    cases hx
    show va_at _ _ (zad E ys.length, yArr E t N (fun _ => 0) (fun _ => none)) H1
    rw [hv, hq]
    show H1[H.size]? = some (vp_cell _ _)
    rw [ha0]
    exact e1
  · rw [z1, hz, List.length_append]; simp; omega
  · exact ⟨Nat.le_trans hSS.1 (by omega), fun x h1 h2 => (o1 x (Nat.lt_of_lt_of_le h1 hSS.1)).trans (hSS.2.1 x h1 h2), hSS.2.2⟩
theorem y_anew {index : Nat} (hF : yF E J p s m args meth c) (hS : yS E ys s H locs) (hcl : Cond.classLink J.1.cls index "BlushCourt$Court" ∈ zT) {n : Int32} {N : Nat} (hn : ¬ n < 0) (hN : n.toNatClampNeg = N) (hbytes : N * 4 ≤ 536870912) (hcells : cells + 1 ≤ R.cells) (hslots : slots + N ≤ R.slots) (hdg : decode J.2.1 pc = .ok (.anewarray index, 3))
    (kk : ∀ H1 : Heap, yS E (ys ++ [.inr (4, N, (fun _ => 0), (fun _ => none))]) s H1 locs → W p l e R s m args below meth c H1 locs (cells + 1) (slots + N) Q (F0 m (pc + 3) ls (.ref (zad E ys.length) :: rest))) : W p l e R s m args below meth c H locs cells slots Q (F0 m pc ls (.int n :: rest)) := by
  obtain ⟨hx, hb, hr, hml, hown, hlk, hnm, hts, hK, hbz, ha⟩ := hF
  obtain ⟨hP, hz, hSS⟩ := hS
  have hq : zad E ys.length = H.size := by rw [ha, hz]
  subst hN
  refine W.anew hx hb hown (hts _ hcl) (va_AO.use hbz.2) rfl hdg rfl hn hbytes hcells hslots fun cA kA comp f1 f2 f3 f4 => ?_
  obtain ⟨kA2, comp2, g1, g2, g3, g4⟩ : va_RA s (ztc E 4) (.object "BlushCourt$Court") := (hK.2 4 _ rfl).2
  have hcA : cA = ztc E 4 := Option.some.inj (f1.symm.trans g4)
  subst hcA
  generalize hH1 : H.push ({ cls := ztc E 4, slots := Array.replicate n.toNatClampNeg .null, vm := .none } : Cell) = H1
  have z1 : H1.size = H.size + 1 := by rw [← hH1, Array.size_push]
  have e1 : H1[H.size]? = some (arrV (ztc E 4) n.toNatClampNeg (fun _ => .null)) := by rw [← hH1, Array.getElem?_push_size, ← arrV_new]
  have o1 : ∀ q : Nat, q < H.size → H1[q]? = H[q]? := fun q hq => by rw [← hH1, Array.getElem?_push, if_neg (Nat.ne_of_lt hq)]
  have hk : ∀ (k : Nat) (x : Nat × va_E), (yW E ys)[k]? = some x → H1[x.1]? = H[x.1]? := fun k x hx => o1 x.1 ((hP k x hx).lt)
  have := kk H1 ⟨?_, ?_, ?_⟩
  · rw [hq] at this
    exact this
  · rw [yW_push]
    refine (hP.kept hk).app (fun k x hx => ?_)
    have hz : k < 1 := (List.getElem?_eq_some_iff.mp hx).1
    rw [show k = 0 by omega] at hx
    cases hx
    show H1[zad E ys.length]? = some (vp_cell _ _)
    rw [hq]
    exact e1
  · rw [z1, hz, List.length_append]; simp; omega
  · exact ⟨Nat.le_trans hSS.1 (by omega), fun x h1 h2 => (o1 x (Nat.lt_of_lt_of_le h1 hSS.1)).trans (hSS.2.1 x h1 h2), hSS.2.2⟩
/-- a field is set, final or not -/
def yPut (own : String) (idx ci j : Nat) (ty : FieldType) : Prop := ∃ (C : String) (T : u_T) (N : Nat) (ty0 : Nat → FieldType), vwCl[ci]? = some (C, T, N) ∧ j < N ∧ (∀ w ∈ u_ws C T N, w ∈ zT) ∧ Cond.fieldLink own idx (T j).1 (T j).2.1 (T j).2.2.1 ∈ zT ∧
  (∀ k, k < N → parseFieldDescriptor (T k).2.2.1 = some (ty0 k)) ∧ (∀ a, a < N → ∀ b, b < N → a ≠ b → (T a).2.1 ≠ (T b).2.1) ∧ parseFieldDescriptor (T j).2.2.1 = some ty ∧ (T j).1 = own
theorem y_put {idx ci j o : Nat} {ty : FieldType} {fs : List Value} {v : Value} (hF : yF E J p s m args meth c) (hS : yS E ys s H locs) (hi : J.1.name = "<init>") (hg : yPut J.1.cls idx ci j ty) (ho : ys[o]? = some (.inl (ci, fs))) (hj : j < fs.length) (hn : narrow ty (zV E v) = zV E v) (hfit : fits ty (zV E v) = true) (hdg : decode J.2.1 pc = .ok (.putfield idx, 3))
    (kk : ∀ (H1 : Heap) (locs1 : List Loc), yS E (ys.set o (.inl (ci, fs.set j v))) s H1 locs1 → W p l e R s m args below meth c H1 locs1 cells slots Q (F0 m (pc + 3) ls rest)) : W p l e R s m args below meth c H locs cells slots Q (F0 m pc ls (zV E v :: .ref (zad E o) :: rest)) := by
  obtain ⟨hx, hb, hr, hml, hown, hlk, hnm, hts, hK, hbz, ha⟩ := hF
  obtain ⟨hP, hz, hSS⟩ := hS
  obtain ⟨C, T, N, ty0, hc, hjN, hin, hl, hty, hnm2, hdd, hdecl⟩ := hg
  have hol : o < ys.length := (List.getElem?_eq_some_iff.mp ho).1
  have hw : (yW E ys)[o]? = some (zad E o, .inr (ci, fs.map (zV E))) := yW_get ho
  have hle : j < (fs.map (zV E)).length := by rw [List.length_map]; exact hj
  have hD := yD ha ys
  have fin : ∀ (H1 : Heap) (k0 : Nat), va_P (zD E) vwCl ((yW E ys).set o (zad E o, .inr (ci, (fs.map (zV E)).set j (zV E v)))) H1 → H1.size = H.size → (∀ q : Nat, q ≠ zad E o → H1[q]? = H[q]?) → W p l e R s m args below meth c H1 (locs ++ [⟨zad E o, k0⟩]) cells slots Q (F0 m (pc + 3) ls rest) := by
    intro H1 k0 h1 hz1 oq
    have e1 : (yW E ys).set o (zad E o, .inr (ci, (fs.map (zV E)).set j (zV E v))) = yW E (ys.set o (.inl (ci, fs.set j v))) := by
      rw [← yW_set]
      simp [yR, List.map_set]
    rw [e1] at h1
    exact kk H1 _ ⟨h1, by rw [hz1, hz, List.length_set], hSS.put hz1 oq (hD.2 o _ hw)⟩
  have hap := va_apart (own := J.1.cls) hts hin ty0 hty hnm2 hK hc
  obtain ⟨r, h1, cell, q1, q2, q3, q4⟩ := hP o _ hw
  have hr : r = (C, T, N) := Option.some.inj (h1.symm.trans hc)
  subst hr
  obtain ⟨hSl, hfc, kC, hkC, hkind⟩ := hK.1 ci _ hc
  obtain ⟨cf, kf, fi, f, hfi, hsl⟩ := hSl j hjN
  have hlay := hts _ (hin _ (u_in_lay hjN))
  unfold u_lay at hlay
  have hst := (u_facts hfc hkC (u_lays hts hin hjN) hfi).1
  by_cases hfin : (T j).2.2.2 = true
  · rw [if_pos hfin] at hlay
    have hcf : m.cls = cf := by
      obtain ⟨_, _, c', _, _, _, -, -, hf', -, -, -, hown2, -⟩ := Cond.laysFinal_spec hlay
      have e1 : c' = cf := by have := hfi.symm.trans hf'; simp at this; exact this.1.symm
      rw [hdecl] at hown2
      rw [← e1]; exact Option.some.inj (hown.symm.trans hown2)
    have h6 := u_fits hfc hkC hkind (Or.inr hlay) hfi hdd hn hfit
    refine W.putFinK hx hb hown (hts _ hl) hfi hst hcf (hnm.trans hi) (by rw [q2]; exact h6) q1 q3 (by rw [hsl]; exact k2_hasslot (q4 j hjN)) rfl rfl hdg fun H' e1 e2 e3 => ?_
    rw [hsl] at e1 ⊢
    exact fin H' _ (hP.set hD hw ⟨_, hc, t_OB.to (V := updV (vp_V (fs.map (zV E))) j (zV E v)) ⟨_, e1, q2, q3, t_set q4 hap hjN (zV E v)⟩ (fun i _ => vp_updV_set hle (zV E v) i)⟩ e3) e2 e3
  · rw [if_neg hfin] at hlay
    have h6 := u_store hfc hkC hkind hlay hfi hdd hn hfit
    refine W.putK hx hb (f := f) ⟨hown, hts _ hl, ⟨_, _, _, hfi⟩, hst⟩ (by rw [q2]; exact h6) q1 q3 (by rw [hsl]; exact k2_hasslot (q4 j hjN)) rfl rfl hdg fun H' e1 e2 e3 => ?_
    rw [hsl] at e1 ⊢
    exact fin H' _ (hP.set hD hw ⟨_, hc, t_OB.to (V := updV (vp_V (fs.map (zV E))) j (zV E v)) ⟨_, e1, q2, q3, t_set q4 hap hjN (zV E v)⟩ (fun i _ => vp_updV_set hle (zV E v) i)⟩ e3) e2 e3
theorem y_iast {o n : Nat} {i x : Int32} {f : Nat → Int32} {g : Nat → Option Nat} (hF : yF E J p s m args meth c) (hS : yS E ys s H locs) (ho : ys[o]? = some (.inr (0, n, f, g))) (hin : vp_in i n) (hdg : decode J.2.1 pc = .ok (.iastore, 1))
    (kk : ∀ (H1 : Heap) (locs1 : List Loc), yS E (ys.set o (.inr (0, n, upd f i.toNatClampNeg x, g))) s H1 locs1 → W p l e R s m args below meth c H1 locs1 cells slots Q (F0 m (pc + 1) ls rest)) : W p l e R s m args below meth c H locs cells slots Q (F0 m pc ls (.int x :: .int i :: .ref (zad E o) :: rest)) := by
  obtain ⟨hx, hb, hr, hml, hown, hlk, hnm, hts, hK, hbz, ha⟩ := hF
  obtain ⟨hP, hz, hSS⟩ := hS
  have hD := yD ha ys
  have hw : (yW E ys)[o]? = some (zad E o, .inl (ztc E 0, n, .inl f)) := yW_get ho
  refine W.iast hx hb (hP o _ hw) ((hK.2 0 _ rfl).1 n (fun j => .int (f j))) (fun q => by cases q) (by show ¬ (i < 0 ∨ (arrV _ _ _).slots.size ≤ _); rw [arrV_size]; exact hin) rfl rfl hdg fun H1 e z oq => ?_
  refine kk H1 _ ⟨?_, by rw [z, hz, List.length_set], hSS.put z oq (hD.2 o _ hw)⟩
  rw [← yW_set]
  refine hP.set hD hw ?_ oq
  show H1[zad E o]? = some (vp_cell _ _)
  rw [e]
  rw [vp_cell_i, vp_cell_i, arrV_store]
  show some (arrV (ztc E 0) n (updV (fun j => Value.int (f j)) i.toNatClampNeg (Value.int x))) = some (arrV (ztc E 0) n (fun j => Value.int (upd f i.toNatClampNeg x j)))
  congr 2
  funext j
  simp only [updV, upd]
  split <;> rfl
/-- a constructor's contract: the world ys becomes ys' -/
def yC (E : zEv) (J : zJ) (D mc ms : Nat) (o : Nat) (ys ys' : List yEnt) : Prop :=
  Met (zl E) J.1 (.code J.1 J.2.1 J.2.2.1 J.2.2.2.1 :: zT) { frames := D + 8, cells := mc, slots := ms, locals := 64 * D + 128 } (fun a U => a = #[Value.ref (zad E o)] ∧ va_P (zD E) vwCl (yW E ys) U.heap ∧ U.heap.size = zb E + ys.length ∧ va_K (zD E) vwCl (zts E) U ∧ va_AO "BlushCourt$Court" U ∧ (∀ o, zad E o = zb E + o))
    (fun _ st oc t => oc = .returned none ∧ va_P (zD E) vwCl (yW E ys') t.heap ∧ t.heap.size = zb E + ys'.length ∧ va_F (zA E) st t) mc ms (zA E)
theorem yblind {o : Nat} : FrameBlind (fun a U => a = #[Value.ref (zad E o)] ∧ va_P (zD E) vwCl (yW E ys) U.heap ∧ U.heap.size = zb E + ys.length ∧ va_K (zD E) vwCl (zts E) U ∧ va_AO "BlushCourt$Court" U ∧ (∀ o, zad E o = zb E + o)) := by
  intro a U g mk h
  obtain ⟨h1, h2, h3, h4, h6, h5⟩ := h
  exact ⟨h1, h2, h3, h4.moved (Vm.Alike.refl _), h6.moved (Vm.Alike.refl _), h5⟩
/-- entry idx of own's pool is the constructor J1 -/
def yInv (own : String) (idx : Nat) (J1 : zJ) : Prop := (Cond.methodLink own idx J1.1 ∈ zT ∨ ∃ host, Cond.methodLinkNest own idx J1.1 host ∈ zT) ∧ Cond.instanceMethod J1.1 ∈ zT ∧ Cond.initialized J1.1.cls ∈ zT ∧ Cond.code J1.1 J1.2.1 J1.2.2.1 J1.2.2.2.1 ∈ zT ∧ J1.2.2.2.1 = none ∧ J1.1.name = "<init>" ∧ J1.1.cls ≠ "java/lang/invoke/MethodHandle" ∧ J1.1.cls ≠ "java/lang/invoke/VarHandle" ∧ (parseMethodDescriptor J1.1.desc).map (fun d => d.parameters.length) = some 0 ∧ J1.2.2.1 ≤ 45
theorem y_call {J1 : zJ} {D idx o mc ms : Nat} {ys' : List yEnt} (hF : yF E J p s m args meth c) (hS : yS E ys s H locs) (hi : yInv J.1.cls idx J1) (hlz : ls.size = J.2.2.1) (hl : l = zl E) (hRf : D + 9 ≤ R.frames) (hRl : 64 * (D + 1) + 128 ≤ R.locals) (hcells : cells + mc ≤ R.cells) (hslots : slots + ms ≤ R.slots) (hw : (rest.map fun v => v.category).sum ≤ 8) (hdg : decode J.2.1 pc = .ok (.invokespecial idx, 3)) (hM : yC E J1 D mc ms o ys ys')
    (kk : ∀ (H1 : Heap) (locs1 : List Loc), yS E ys' s H1 locs1 → W p l e R s m args below meth c H1 locs1 (cells + mc) (slots + ms) Q (F0 m (pc + 3) ls rest)) : W p l e R s m args below meth c H locs cells slots Q (F0 m pc ls (.ref (zad E o) :: rest)) := by
  subst hl
  obtain ⟨hx, hb, hr, hml, hown, hlk, hnm, hts, hK, hbz, ha⟩ := hF
  obtain ⟨hP, hz, hSS⟩ := hS
  obtain ⟨hlk1, hins, hini, hcode, hnone, hnam, hy1, hy2, hpar, hmx⟩ := hi
  have hwarm : ∀ w ∈ (Cond.code J1.1 J1.2.1 J1.2.2.1 J1.2.2.2.1 :: zT), ∀ (a' : Array Value) (U : State), s.WarmedH U.vm → w.before a' U = true := by
    intro w hw a' U hW
    rcases List.mem_cons.mp hw with rfl | hw
    · exact zT_warm hW hts _ hcode
    · exact zT_warm hW hts w hw
  have hsig : ∀ sig, parseMethodDescriptor J1.1.desc = some sig → 0 = sig.parameters.length := by
    intro sig h
    rw [h] at hpar
    exact (Option.some.inj hpar).symm
  have hpre : ∀ U : State, U.heap = H → s.WarmedH U.vm → (fun (a : Array Value) (U : State) => a = #[Value.ref (zad E o)] ∧ va_P (zD E) vwCl (yW E ys) U.heap ∧ U.heap.size = zb E + ys.length ∧ va_K (zD E) vwCl (zts E) U ∧ va_AO "BlushCourt$Court" U ∧ (∀ o, zad E o = zb E + o)) (Value.ref (zad E o) :: []).toArray U := fun U hU hW => ⟨rfl, by rw [hU]; exact hP, by rw [hU]; exact hz, hK.moved hW.alike, hbz.2.moved hW.alike, ha⟩
  have hrun : va_Run p (zl E) e R s m args below meth c H locs cells slots mc ms (F0 m pc ls (.ref (zad E o) :: rest)) rest (fun st oc t => oc = .returned none ∧ va_P (zD E) vwCl (yW E ys') t.heap ∧ t.heap.size = zb E + ys'.length ∧ va_F (zA E) st t) (zA E) := by
    unfold yC at hM
    rw [hnone] at hM hcode hwarm
    rcases hlk1 with hlk1 | ⟨host, hlk1⟩
    · exact va_runI (As := []) (b := zad E o) (g := F0 m pc ls (.ref (zad E o) :: rest)) ⟨hx, hb, hml, hown, hts⟩ hM ⟨⟨rfl, rfl, by show D + 8 + 1 ≤ _; omega, by show 8 + (J1.2.2.1 + 11) + (64 * D + 128) ≤ _; omega, hwarm, List.mem_cons_self, hts _ hcode, hts _ hini, ⟨hy1, hy2⟩, hsig, hts _ hlk1⟩, hnam, hts _ hins⟩ ⟨yblind, hpre⟩ rfl rfl hlz rfl (by show 2 * 0 + _ ≤ 8; omega) hdg ⟨hcells, hslots⟩
    · exact va_runIN (As := []) (b := zad E o) (g := F0 m pc ls (.ref (zad E o) :: rest)) ⟨hx, hb, hml, hown, hts⟩ hM ⟨⟨⟨rfl, rfl, by show D + 8 + 1 ≤ _; omega, by show 8 + (J1.2.2.1 + 11) + (64 * D + 128) ≤ _; omega, hwarm, List.mem_cons_self⟩, hts _ hcode, hts _ hini, ⟨hy1, hy2⟩, hsig, hts _ hlk1⟩, hnam, hts _ hins⟩ ⟨yblind, hpre⟩ rfl rfl hlz rfl (by show 2 * 0 + _ ≤ 8; omega) hdg ⟨hcells, hslots⟩
  intro T hT X
  obtain ⟨v, st₀, t, T', L, h0, X', hLs, e1, e2, ⟨hv, hP1, hz1, hF1⟩, go⟩ := hrun T hT X
  cases hv
  have hS1 := (vx_keep h0 e1 hSS (fun _ _ h => h) (fun _ h => h) hLs hF1).2.2
  obtain ⟨t2, a1, b1⟩ := kk T'.heap (locs ++ L) ⟨by rw [e1]; exact hP1, by rw [e1]; exact hz1, hS1⟩ T' rfl X'
  exact ⟨t2, go t2 a1, b1⟩
/-- a constructor's contract out of its walk -/
theorem y_meth {D mc ms o : Nat} {ys' : List yEnt} (hy : plainName J.1.cls = true) (hlen : 1 ≤ J.2.2.1)
    (h : ∀ (p : Program) (e : Env) (s : State) (m : MethodId) (args : Array Value) (below : List Frame) (meth : Method) (c : Code) (Ls : Array Slot), yF E J p s m args meth c → yS E ys s s.heap [] → lv_has Ls J.2.2.1 [(0, .ref (zad E o))] →
      W p (zl E) e { frames := D + 8, cells := mc, slots := ms, locals := 64 * D + 128 } s m args below meth c s.heap [] 0 0 (MQ below (fun _ st oc t => oc = .returned none ∧ va_P (zD E) vwCl (yW E ys') t.heap ∧ t.heap.size = zb E + ys'.length ∧ va_F (zA E) st t) args s mc ms (zA E)) (F0 m 0 Ls [])) : yC E J D mc ms o ys ys' := by
  refine Met.ofW (cc := J.2.1) (maxL := J.2.2.1) (ret := J.2.2.2.1) hy rfl ?_
  intro p e s m args below meth c s₁ B hml hv
  obtain ⟨rfl, hP, hz, hK, hAO, ha⟩ := hv
  have hts := atoms_spec (ws := .code J.1 J.2.1 J.2.2.1 J.2.2.2.1 :: zT) B.pre
  have hl := lv_entry [.ref (zad E o)] (n := J.2.2.1) hlen
  rw [show (#[Value.ref (zad E o)] : Array Value) = [Value.ref (zad E o)].toArray from rfl, lg_entry_eq]
  exact h p e s m _ below meth c _ ⟨B.exec, B.bytes, B.returns, hml, findClass_of_methodNamed B.named, B.notSynchronized, (name_of_methodNamed B.named B.method).1, fun w hw => hts w (List.mem_cons_of_mem _ hw), hK, ⟨by omega, hAO⟩, ha⟩ ⟨hP, hz, va_S.rf⟩ hl
theorem y_ret {D mc ms : Nat} {ys' : List yEnt} (hF : yF E J p s m args meth c) (hS : yS E ys' s H locs) (hj : J.2.2.2.1 = none) (hc : cells ≤ mc) (hs : slots ≤ ms) (hdg : decode J.2.1 pc = .ok (.return_, 1)) : W p l e R s m args below meth c H locs cells slots (MQ below (fun _ st oc t => oc = .returned none ∧ va_P (zD E) vwCl (yW E ys') t.heap ∧ t.heap.size = zb E + ys'.length ∧ va_F (zA E) st t) args s mc ms (zA E)) (F0 m pc ls []) := by
  obtain ⟨hx, hb, hr, hml, hown, hlk, hnm, hts, hK, hbz, ha⟩ := hF
  obtain ⟨hP, hz, hSS⟩ := hS
  exact W.widen hc hs (W.vret hx hb (hr.trans hj) (fun t ht hw => ⟨rfl, by rw [ht]; exact hP, by rw [ht]; exact hz, hSS.F ht⟩) hSS.2.2 hdg hlk)
end YR
