/-! ===== the same rows, for the newest object and what is made behind it ===== -/
theorem ySa {pre tl : List yEnt} {t x : yEnt} : (pre ++ (t :: tl)) ++ [x] = pre ++ (t :: (tl ++ [x])) := by simp
theorem ySb {pre tl bl : List yEnt} {t : yEnt} : (pre ++ (t :: tl)) ++ bl = pre ++ (t :: (tl ++ bl)) := by simp
theorem yS0 {pre tl : List yEnt} {t : yEnt} : (pre ++ (t :: tl))[pre.length]? = some t := by simp
theorem ySs {pre tl : List yEnt} {t t' : yEnt} : (pre ++ (t :: tl)).set pre.length t' = pre ++ (t' :: tl) := by simp
theorem yS1 {pre tl : List yEnt} {t u : yEnt} : (pre ++ (t :: u :: tl))[pre.length + 1]? = some u := by simp
theorem ySs1 {pre tl : List yEnt} {t u u' : yEnt} : (pre ++ (t :: u :: tl)).set (pre.length + 1) u' = pre ++ (t :: u' :: tl) := by simp
section YQ
variable {p : Program} {l : Launch} {e : Env} {R : Room} {s : State} {m : MethodId} {args : Array Value} {below : List Frame} {meth : Method} {c : Code} {H : Heap} {locs : List Loc} {cells slots : Nat} {Q : State → Prop} {pc : Nat} {ls : Array Slot} {rest : List Value}
variable {E : zEv} {J : zJ} {pre tl : List yEnt} {t : yEnt} {n q : Nat}
theorem r_new {C : String} {T : u_T} {N ci index : Nat} (hF : yF E J p s m args meth c) (hS : yS E (pre ++ (t :: tl)) s H locs) (hq : pre.length + 1 + tl.length = q) (hc : vwCl[ci]? = some (C, T, N)) (hin : ∀ w ∈ u_ws C T N, w ∈ zT) (ty : Nat → FieldType) (hty : ∀ k, k < N → parseFieldDescriptor (T k).2.2.1 = some (ty k)) (hcl : Cond.classLink J.1.cls index C ∈ zT) (hinst : Cond.instantiable C N ∈ zT) (hini : Cond.initialized C ∈ zT)
    (fs : List Value) (hfs : ∀ j, j < N → defaultValue (ty j) = vp_V (fs.map (zV E)) j) (hcells : cells + 1 ≤ R.cells) (hslots : slots + N ≤ R.slots) (hdg : decode J.2.1 pc = .ok (.new index, 3))
    (kk : ∀ H1 : Heap, yS E (pre ++ (t :: (tl ++ [.inl (ci, fs)]))) s H1 locs → W p l e R s m args below meth c H1 locs (cells + 1) (slots + N) Q (F0 m (pc + 3) ls (.ref (zad E q) :: rest))) : W p l e R s m args below meth c H locs cells slots Q (F0 m pc ls rest) := by
  refine y_new hF hS hc hin ty hty hcl hinst hini fs hfs hcells hslots hdg (fun H1 h1 => ?_)
  rw [ySa] at h1
  rw [show (pre ++ (t :: tl)).length = q by simp; omega]
  exact kk H1 h1
theorem r_newI (hF : yF E J p s m args meth c) (hS : yS E (pre ++ (t :: tl)) s H locs) (hq : pre.length + 1 + tl.length = q) (harr : Cond.arrayClass .int ∈ zT) {k : Int32} {N : Nat} (hn : ¬ k < 0) (hN : k.toNatClampNeg = N) (hbytes : N * componentBytes .int ≤ 536870912) (hcells : cells + 1 ≤ R.cells) (hslots : slots + N ≤ R.slots) (hdg : decode J.2.1 pc = .ok (.newarray .int, 2))
    (kk : ∀ H1 : Heap, yS E (pre ++ (t :: (tl ++ [.inr (0, N, (fun _ => 0), (fun _ => none))]))) s H1 locs → W p l e R s m args below meth c H1 locs (cells + 1) (slots + N) Q (F0 m (pc + 2) ls (.ref (zad E q) :: rest))) : W p l e R s m args below meth c H locs cells slots Q (F0 m pc ls (.int k :: rest)) := by
  refine y_newa (t := 0) (atype := .int) hF hS harr rfl rfl (fun cA => rfl) (fun h => h) hn hN hbytes hcells hslots hdg (fun H1 h1 => ?_)
  rw [ySa] at h1
  rw [show (pre ++ (t :: tl)).length = q by simp; omega]
  exact kk H1 h1
theorem r_newB (hF : yF E J p s m args meth c) (hS : yS E (pre ++ (t :: tl)) s H locs) (hq : pre.length + 1 + tl.length = q) (harr : Cond.arrayClass .byte ∈ zT) {k : Int32} {N : Nat} (hn : ¬ k < 0) (hN : k.toNatClampNeg = N) (hbytes : N * componentBytes .byte ≤ 536870912) (hcells : cells + 1 ≤ R.cells) (hslots : slots + N ≤ R.slots) (hdg : decode J.2.1 pc = .ok (.newarray .byte, 2))
    (kk : ∀ H1 : Heap, yS E (pre ++ (t :: (tl ++ [.inr (1, N, (fun _ => 0), (fun _ => none))]))) s H1 locs → W p l e R s m args below meth c H1 locs (cells + 1) (slots + N) Q (F0 m (pc + 2) ls (.ref (zad E q) :: rest))) : W p l e R s m args below meth c H locs cells slots Q (F0 m pc ls (.int k :: rest)) := by
  refine y_newa (t := 1) (atype := .byte) hF hS harr rfl rfl (fun cA => rfl) (fun h => h) hn hN hbytes hcells hslots hdg (fun H1 h1 => ?_)
  rw [ySa] at h1
  rw [show (pre ++ (t :: tl)).length = q by simp; omega]
  exact kk H1 h1
theorem r_newZ (hF : yF E J p s m args meth c) (hS : yS E (pre ++ (t :: tl)) s H locs) (hq : pre.length + 1 + tl.length = q) (harr : Cond.arrayClass .boolean ∈ zT) {k : Int32} {N : Nat} (hn : ¬ k < 0) (hN : k.toNatClampNeg = N) (hbytes : N * componentBytes .boolean ≤ 536870912) (hcells : cells + 1 ≤ R.cells) (hslots : slots + N ≤ R.slots) (hdg : decode J.2.1 pc = .ok (.newarray .boolean, 2))
    (kk : ∀ H1 : Heap, yS E (pre ++ (t :: (tl ++ [.inr (2, N, (fun _ => 0), (fun _ => none))]))) s H1 locs → W p l e R s m args below meth c H1 locs (cells + 1) (slots + N) Q (F0 m (pc + 2) ls (.ref (zad E q) :: rest))) : W p l e R s m args below meth c H locs cells slots Q (F0 m pc ls (.int k :: rest)) := by
  refine y_newa (t := 2) (atype := .boolean) hF hS harr rfl rfl (fun cA => rfl) (fun h => h) hn hN hbytes hcells hslots hdg (fun H1 h1 => ?_)
  rw [ySa] at h1
  rw [show (pre ++ (t :: tl)).length = q by simp; omega]
  exact kk H1 h1
theorem r_newJ (hF : yF E J p s m args meth c) (hS : yS E (pre ++ (t :: tl)) s H locs) (hq : pre.length + 1 + tl.length = q) (harr : Cond.arrayClass .long ∈ zT) {k : Int32} {N : Nat} (hn : ¬ k < 0) (hN : k.toNatClampNeg = N) (hbytes : N * componentBytes .long ≤ 536870912) (hcells : cells + 1 ≤ R.cells) (hslots : slots + N ≤ R.slots) (hdg : decode J.2.1 pc = .ok (.newarray .long, 2))
    (kk : ∀ H1 : Heap, yS E (pre ++ (t :: (tl ++ [.inr (3, N, (fun _ => 0), (fun _ => none))]))) s H1 locs → W p l e R s m args below meth c H1 locs (cells + 1) (slots + N) Q (F0 m (pc + 2) ls (.ref (zad E q) :: rest))) : W p l e R s m args below meth c H locs cells slots Q (F0 m pc ls (.int k :: rest)) := by
  refine y_newa (t := 3) (atype := .long) hF hS harr rfl rfl (fun cA => rfl) (fun h => h) hn hN hbytes hcells hslots hdg (fun H1 h1 => ?_)
  rw [ySa] at h1
  rw [show (pre ++ (t :: tl)).length = q by simp; omega]
  exact kk H1 h1
theorem r_anew {index : Nat} (hF : yF E J p s m args meth c) (hS : yS E (pre ++ (t :: tl)) s H locs) (hq : pre.length + 1 + tl.length = q) (hcl : Cond.classLink J.1.cls index "BlushCourt$Court" ∈ zT) {k : Int32} {N : Nat} (hn : ¬ k < 0) (hN : k.toNatClampNeg = N) (hbytes : N * 4 ≤ 536870912) (hcells : cells + 1 ≤ R.cells) (hslots : slots + N ≤ R.slots) (hdg : decode J.2.1 pc = .ok (.anewarray index, 3))
    (kk : ∀ H1 : Heap, yS E (pre ++ (t :: (tl ++ [.inr (4, N, (fun _ => 0), (fun _ => none))]))) s H1 locs → W p l e R s m args below meth c H1 locs (cells + 1) (slots + N) Q (F0 m (pc + 3) ls (.ref (zad E q) :: rest))) : W p l e R s m args below meth c H locs cells slots Q (F0 m pc ls (.int k :: rest)) := by
  refine y_anew hF hS hcl hn hN hbytes hcells hslots hdg (fun H1 h1 => ?_)
  rw [ySa] at h1
  rw [show (pre ++ (t :: tl)).length = q by simp; omega]
  exact kk H1 h1
theorem r_put {idx ci j : Nat} {ty : FieldType} {fs : List Value} (fs' : List Value) {v : Value} (hF : yF E J p s m args meth c) (hS : yS E (pre ++ (.inl (ci, fs) :: tl)) s H locs) (hn : pre.length = n) (hi : J.1.name = "<init>") (hg : yPut J.1.cls idx ci j ty) (hj : j < fs.length) (hfs : fs.set j v = fs') (hna : narrow ty (zV E v) = zV E v) (hfit : fits ty (zV E v) = true) (hdg : decode J.2.1 pc = .ok (.putfield idx, 3))
    (kk : ∀ (H1 : Heap) (locs1 : List Loc), yS E (pre ++ (.inl (ci, fs') :: tl)) s H1 locs1 → W p l e R s m args below meth c H1 locs1 cells slots Q (F0 m (pc + 3) ls rest)) : W p l e R s m args below meth c H locs cells slots Q (F0 m pc ls (zV E v :: .ref (zad E n) :: rest)) := by
  subst hn
  subst hfs
  refine y_put hF hS hi hg yS0 hj hna hfit hdg (fun H1 locs1 h1 => ?_)
  rw [ySs] at h1
  exact kk H1 locs1 h1
theorem r_get {idx ci j : Nat} {fs : List Value} {v : Value} (hF : yF E J p s m args meth c) (hS : yS E (pre ++ (.inl (ci, fs) :: tl)) s H locs) (hn : pre.length = n) (hg : zGet J.1.cls idx ci j) (hv : fs[j]? = some v) (hdg : decode J.2.1 pc = .ok (.getfield idx, 3))
    (kk : W p l e R s m args below meth c H locs cells slots Q (F0 m (pc + 3) ls (zV E v :: rest))) : W p l e R s m args below meth c H locs cells slots Q (F0 m pc ls (.ref (zad E n) :: rest)) := by
  subst hn
  obtain ⟨hx, hb, hr, hml, hown, hlk, hnm, hts, hK, hbz, ha⟩ := hF
  obtain ⟨hP, hz, hSS⟩ := hS
  obtain ⟨C, T, N, hc, hjN, hin, hl⟩ := hg
  have hw := yW_get (E := E) (yS0 (pre := pre) (tl := tl) (t := .inl (ci, fs)))
  have hv' : (fs.map (zV E))[j]? = some (zV E v) := by simp [hv]
  rcases hl with hl | ⟨host, hl⟩
  · exact va_get hx hb hts hin hown hK hP _ hw hc j hjN (hts _ hl) (fun x h => h) hv' hdg kk
  · exact va_getN hx hb hts hin hown hK hP _ hw hc j hjN (hts _ hl) (fun x h => h) hv' hdg kk
theorem r_call {J1 : zJ} {D idx mc ms : Nat} {dd : yEnt} {bl : List yEnt} (hF : yF E J p s m args meth c) (hS : yS E (pre ++ (t :: (tl ++ [dd]))) s H locs) (hq : pre.length + 1 + tl.length = q) (hi : yInv J.1.cls idx J1) (hlz : ls.size = J.2.2.1) (hl : l = zl E) (hRf : D + 9 ≤ R.frames) (hRl : 64 * (D + 1) + 128 ≤ R.locals) (hcells : cells + mc ≤ R.cells) (hslots : slots + ms ≤ R.slots) (hw : (rest.map fun v => v.category).sum ≤ 8) (hdg : decode J.2.1 pc = .ok (.invokespecial idx, 3)) (hM : ∀ pre' : List yEnt, pre'.length = q → yC E J1 D mc ms q (pre' ++ [dd]) (pre' ++ bl))
    (kk : ∀ (H1 : Heap) (locs1 : List Loc), yS E (pre ++ (t :: (tl ++ bl))) s H1 locs1 → W p l e R s m args below meth c H1 locs1 (cells + mc) (slots + ms) Q (F0 m (pc + 3) ls rest)) : W p l e R s m args below meth c H locs cells slots Q (F0 m pc ls (.ref (zad E q) :: rest)) := by
  rw [← ySa] at hS
  refine y_call hF hS hi hlz hl hRf hRl hcells hslots hw hdg (hM (pre ++ (t :: tl)) (by simp; omega)) (fun H1 locs1 h1 => ?_)
  rw [ySb] at h1
  exact kk H1 locs1 h1
theorem r_iast {k : Nat} {i x : Int32} {f : Nat → Int32} {g : Nat → Option Nat} (hF : yF E J p s m args meth c) (hS : yS E (pre ++ (t :: .inr (0, k, f, g) :: tl)) s H locs) (hn : pre.length + 1 = n) (hin : vp_in i k) (hdg : decode J.2.1 pc = .ok (.iastore, 1))
    (kk : ∀ (H1 : Heap) (locs1 : List Loc), yS E (pre ++ (t :: .inr (0, k, upd f i.toNatClampNeg x, g) :: tl)) s H1 locs1 → W p l e R s m args below meth c H1 locs1 cells slots Q (F0 m (pc + 1) ls rest)) : W p l e R s m args below meth c H locs cells slots Q (F0 m pc ls (.int x :: .int i :: .ref (zad E n) :: rest)) := by
  subst hn
  refine y_iast hF hS yS1 hin hdg (fun H1 locs1 h1 => ?_)
  rw [ySs1] at h1
  exact kk H1 locs1 h1
theorem r_aast {k v : Nat} {i : Int32} {f : Nat → Int32} {g : Nat → Option Nat} {fs : List Value} (hF : yF E J p s m args meth c) (hS : yS E (pre ++ (t :: .inr (4, k, f, g) :: tl)) s H locs) (hn : pre.length + 1 = n) (hv : (pre ++ (t :: .inr (4, k, f, g) :: tl))[v]? = some (.inl (3, fs))) (hin : vp_in i k) (hdg : decode J.2.1 pc = .ok (.aastore, 1))
    (kk : ∀ (H1 : Heap) (locs1 : List Loc), yS E (pre ++ (t :: .inr (4, k, f, (fun z => if z = i.toNatClampNeg then some v else g z)) :: tl)) s H1 locs1 → W p l e R s m args below meth c H1 locs1 cells slots Q (F0 m (pc + 1) ls rest)) : W p l e R s m args below meth c H locs cells slots Q (F0 m pc ls (.ref (zad E v) :: .int i :: .ref (zad E n) :: rest)) := by
  subst hn
  obtain ⟨hx, hb, hr, hml, hown, hlk, hnm, hts, hK, hbz, ha⟩ := hF
  obtain ⟨hP, hz, hSS⟩ := hS
  have hD := yD ha (pre ++ (t :: .inr (4, k, f, g) :: tl))
  have hw : (yW E (pre ++ (t :: .inr (4, k, f, g) :: tl)))[pre.length + 1]? = some (zad E (pre.length + 1), .inl (ztc E 4, k, .inr (.inr (.inr (.inr (fun j => (g j).map (zad E))))))) := yW_get yS1
  have hlt : i.toNatClampNeg < k := Nat.not_le.mp fun q => hin (Or.inr q)
  have h0 : ¬ i < 0 := fun q => hin (Or.inl q)
  obtain ⟨r', hr', cellV, g1, g2, g3, -⟩ := hP v _ (yW_get hv)
  have hcls := (hK.1 3 (RX3, TX3, 16) rfl).2
  obtain ⟨kA, comp, k1, k2, k3, -⟩ : va_RA s (ztc E 4) (.object "BlushCourt$Court") := (hK.2 4 _ rfl).2
  have hcomp : comp = (zD E).1 3 := Option.some.inj (k3.symm.trans hcls.1)
  subst hcomp
  obtain ⟨kC, hkC, -⟩ := hcls.2
  refine W.aast hx hb (hP _ _ hw) (fun q h => by cases h) (fun h => by cases h) k1 k2 rfl hkC ⟨h0, by show _ < (arrV _ _ _).slots.size; rw [arrV_size]; exact hlt⟩ g1 (fun q h => by rw [g3] at h; cases h) (by rw [g2]; exact hkC) (by rw [g2]; exact va_assign hcls) rfl rfl hdg fun H1 e z oq => ?_
  refine kk H1 _ ⟨?_, by rw [z, hz]; simp, hSS.put z oq (hD.2 _ _ hw)⟩
  rw [← ySs1 (u := .inr (4, k, f, g)), ← yW_set]
  refine hP.set hD hw ?_ oq
  show H1[zad E (pre.length + 1)]? = some (vp_cell _ _)
  rw [e]
  show some (Cell.setSlot (vp_cell (ztc E 4) (k, .inr (.inr (.inr (.inr (fun j => (g j).map (zad E))))))) i.toNatClampNeg (Value.ref (zad E v))) = some (vp_cell (ztc E 4) (k, .inr (.inr (.inr (.inr (fun j => ((fun z => if z = i.toNatClampNeg then some v else g z) j).map (zad E)))))))
  rw [vp_cell_q, vp_cell_q, arrV_store]
  congr 2
  funext j
  simp only [updV]
  by_cases hj : j = i.toNatClampNeg
  · simp [hj, va_rf]
  · simp [hj]
end YQ
