theorem zw_32 : (Cond.methodLink "BlushCourtLaw" 143 ⟨"BlushCourt", "<init>", "()V"⟩) ∈ zT := zq_1 32 rfl rfl
theorem zw_33 : (Cond.instanceMethod ⟨"BlushCourt", "<init>", "()V"⟩) ∈ zT := zq_1 33 rfl rfl
theorem zw_34 : (Cond.code ⟨"BlushCourt", "<init>", "()V"⟩ prog_1_method_1_code 1 (none : Option Jvm.ClassFile.FieldType)) ∈ zT := zq_1 34 rfl rfl
theorem zw_1461 : (Cond.methodLink "BlushCourtLaw" 146 ⟨"BlushCourtModel", "<init>", "()V"⟩) ∈ zT := zq_7 21 rfl rfl
theorem zw_1462 : (Cond.instanceMethod ⟨"BlushCourtModel", "<init>", "()V"⟩) ∈ zT := zq_7 22 rfl rfl
theorem zw_1463 : (Cond.code ⟨"BlushCourtModel", "<init>", "()V"⟩ prog_14_method_5_code 1 (none : Option Jvm.ClassFile.FieldType)) ∈ zT := zq_7 23 rfl rfl
theorem zw_30 : (Cond.classLink "BlushCourtLaw" 8 "BlushCourt") ∈ zT := zq_1 30 rfl rfl
theorem zw_1459 : (Cond.classLink "BlushCourtLaw" 144 "BlushCourtModel") ∈ zT := zq_7 19 rfl rfl
theorem yi_L_143 : yInv RL 143 jX11_init := ⟨Or.inl zw_32, zw_33, zw_1, zw_34, rfl, rfl, by decide, by decide, by decide +kernel, by decide⟩
theorem yi_L_146 : yInv RL 146 jX12_init := ⟨Or.inl zw_1461, zw_1462, zw_12, zw_1463, rfl, rfl, by decide, by decide, by decide +kernel, by decide⟩
/-- what is left to show of numbers alone -/
def zPure : Prop := ∀ E : zEv, zLn E ≤ 3072 → w_L_law__23 E 1200 4096 (fun r _ => r = 1) (fun _ _ => False) 0 0 zM0
def lw_Q (_ : Array Value) (s : State) (o : Outcome) (t : State) : Prop := o = .returned (some (.int 1)) ∧ Framed s o t [] 601024 7293034
def lw_Z (below : List Frame) (a : Array Value) (s : State) : State → Prop := fun t => ∃ o, t.status = .running ∧ Ended t below o ∧ lw_Q a s o t
/-- what holds at the law's entry -/
def lw_At (p : Program) (s : State) (m : MethodId) (meth : Method) (c : Code) (b L : Nat) (xs : Nat → Int32) : Prop :=
  p.tables.exec = Jvm.exec ∧ c.code = cL_law_ ∧ meth.sig.returnType = some .boolean ∧ c.maxLocals = 7 ∧ s.vm.findClass RL = some m.cls ∧ (∀ w ∈ lw_tbl, w.before #[Value.ref b] s = true) ∧ va_X b L xs s s.heap ∧ b < s.heap.size ∧ meth.locks = false ∧ (Jvm.Cond.and given_1 narrow_1).before #[Value.ref b] s = true ∧ meth.name = "law" ∧ c.exceptionTable.toList = []
/-- from pc 23 on: the loop, seen from its own beginning -/
theorem lw_loop {p : Program} {e : Env} {s : State} {m : MethodId} {below : List Frame} {meth : Method} {c : Code} {l : Launch} {b L : Nat} {xs : Nat → Int32} {H : Heap} {locs : List Loc} {Ls : Array Slot} {E0 : zEv} {cells slots : Nat} (hpure : zPure) (hst : l.stackTraces = false) (hL : L ≤ 3072) (C0 : lw_At p s m meth c b L xs)
    (hK : va_K (zD E0) vwCl (zts E0) s) (h0 : zl E0 = l) (ha : ∀ o, zad E0 o = zb E0 + o) (hb0 : zb E0 = s.heap.size) (hS : yS E0 ysF s H locs) (hls : lv_has Ls 7 [(4, .int 0), (3, .ref (zad E0 270)), (2, .ref (zad E0 252)), (1, .ref (zad E0 0)), (0, .ref b)]) (hc : cells ≤ 1000) (hs : slots ≤ 100000) :
    W p l e room_1 s m #[Value.ref b] below meth c H locs cells slots (lw_Z below #[Value.ref b] s) (F0 m 23 Ls []) := by
  intro T hT X
  obtain ⟨hx, hcode, hret, hml, hown, hts, hX, hbl, hlk, hgv, hnm, het⟩ := C0
  obtain ⟨aK, aV, fm, hold⟩ := st_old hts hgv hX hbl
  have Y := vx_rebase X (R' := zR 1201 4096) (by show 1201 + 8 ≤ 2048; omega) (by show 64 * 1201 + 128 ≤ 84000; omega) (by show cells + 4096 ≤ 601024; omega) (by show slots + 6 * 4096 ≤ 7293034; omega)
  obtain ⟨s', hA⟩ : ∃ z, z = (T.setVm s.vm).setFrames (.invoking m #[Value.ref b] :: below) := ⟨_, rfl⟩
  rw [← hA] at Y
  have hvm : s'.vm = s.vm := by rw [hA]; rfl
  have hhp : s'.heap = H := by rw [hA]; exact hT
  have hW0 : s.WarmedH s'.vm := by rw [hvm]; exact State.WarmedH.refl s
  obtain ⟨hP, hz, hSS⟩ := hS
  obtain ⟨E1, hE1⟩ : ∃ E1, E1 = zEs l (zD E0) (ztc E0) s.heap.size aK aV b fm L xs := ⟨_, rfl⟩
  have hzb : zb E1 = s.heap.size := by rw [hE1]; rfl
  have had : ∀ r, r < 271 → zad E1 r = zad E0 (zp r) := by
    intro r hr
    rw [ha, hb0, hE1]
    show zAd _ _ _ _ _ r = _
    unfold zAd
    rw [if_pos hr]
  have hAA : ∀ q, zA E1 q ↔ zA E0 q := fun q => by show zb E1 ≤ q ↔ zb E0 ≤ q; rw [hzb, hb0]
  have hold1 : zOld E1 s s.heap := by rw [hE1]; exact hold l (zD E0) (ztc E0)
  have hts1 : ∀ w ∈ zT, w.before #[Value.ref b] s = true := fun w hw => hts w (zin hw)
  have hzX : zX E1 #[Value.ref b] s' := by
    refine ⟨zT_warm hW0 hts1, ?_, ?_, ?_⟩
    · rw [hE1]; exact hK.moved hW0.alike
    · rw [hzb, hhp]; exact hSS.1
    · rw [hhp]
      exact hold1.go hW0 (fun a h1 h2 => hSS.2.1 a h1 (fun h => h2 ((hAA a).mpr h)))
  have hzP : va_P (zD E1) vwCl (zW E1 zM0) s'.heap := by
    rw [hhp]
    exact zStart (E0 := E0) (by rw [hE1]; rfl) (by rw [hE1]; rfl) had hP
  have hDj : zDj E1 := zStart_Dj (E0 := E0) (by rw [hzb, hb0]) ha had
  have hl1 : zl E1 = l := by rw [hE1]; rfl
  have hLn : zLn E1 = L := by rw [hE1]; rfl
  have h400 : zad E1 400 = b := by rw [hE1]; rfl
  have hgo := hpure E1 (by rw [hLn]; exact hL) p e s' m #[Value.ref b] below meth c s'.heap [] Ls
    ⟨hx, hcode, hret, hml, by rw [hvm]; exact hown, hlk, het, hzX, hDj, by rw [hl1]; exact hst⟩ ⟨hzP, va_S.rf⟩
    ⟨hls.1, rfl, hls.2.1, fun i v hi hv => by
      match i, hi with
      | 0, hi => cases hi; show Ls[0]? = some (.val (.ref (zad E1 400))); rw [h400]; exact lv_at hls 4 rfl
      | 1, hi => cases hi; show Ls[1]? = some (.val (.ref (zad E1 19))); rw [had 19 (by decide)]; exact lv_at hls 3 rfl
      | 2, hi => cases hi; show Ls[2]? = some (.val (.ref (zad E1 0))); rw [had 0 (by decide)]; exact lv_at hls 2 rfl
      | 3, hi => cases hi; show Ls[3]? = some (.val (.ref (zad E1 18))); rw [had 18 (by decide)]; exact lv_at hls 1 rfl
      | 4, hi => cases hi; exact lv_at hls 0 rfl
      | 5, hi => cases hi; exact absurd rfl hv
      | 6, hi => cases hi; exact absurd rfl hv
      | i + 7, hi => simp at hi⟩
  rw [hl1] at hgo
  obtain ⟨t, a1, o, b1, b2, b3⟩ := hgo T (by rw [hhp]; exact hT) Y
  refine ⟨t, a1, o, b1, b2, ?_⟩
  rcases b3 with ⟨⟨v, M, e1, e2, e3, e4⟩, L1, ⟨f1, f2, f3⟩, f4⟩ | ⟨q, -, E2, ce, L1, ⟨M, e2, e3, e4⟩, -⟩
  · have hv : v = some (.int 1) := by
      revert e2
      unfold zQi
      cases v with
      | none => intro h; exact h.elim
      | some v =>
        cases v <;> intro h <;> first | exact h.elim | skip
        have : _ = (1 : Int32) := h
        rw [this]
    refine ⟨by rw [e1, hv]; rfl, f1, ?_, ?_⟩
    · exact State.WarmedH.trans hW0 f2
    · subst hA
      have h3 : (T.setVm s.vm).sameButNew ({ t with vm := s.vm } : State) L1 4096 (6 * 4096) := by
        obtain ⟨g1, g2⟩ := f3
        rw [State.setFrames_setFrames] at g1
        exact ⟨g1, g2⟩
      have h4 := X.same.trans h3
      have h5 : s.sameButNew ({ t with vm := s.vm } : State) [] (cells + 4096) (slots + 6 * 4096) := by
        have h6 : s.sameButNew ({ t with vm := s.vm } : State) ([] ++ (locs ++ L1)) (cells + 4096) (slots + 6 * 4096) := h4
        refine h6.drop_fresh (fun x hx => ?_)
        rcases List.mem_append.mp hx with hx | hx
        · have := hSS.2.2 x hx
          have h7 : zb E0 ≤ x.base := this
          rw [hb0] at h7
          exact h7
        · have := f4 x hx
          have h7 : zb E1 ≤ x.base := this
          rw [hzb] at h7
          exact h7
      exact h5.mono (by omega) (by omega)
  · exact False.elim e2
theorem whole_start (hpure : zPure) {p : Program} {e : Env} {s : State} {m : MethodId} {below : List Frame} {meth : Method} {c : Code} {l : Launch} (hst : l.stackTraces = false) {b L : Nat} {xs : Nat → Int32} (hL : L ≤ 3072) (C0 : lw_At p s m meth c b L xs) : W p l e room_1 s m #[Value.ref b] below meth c s.heap [] 0 0 (lw_Z below #[Value.ref b] s) (entryFrame m ([Value.ref b] : List Value).toArray 7) := by
  obtain ⟨hx, hb, hret, hml, hown, hts, hX, hbl, hlk, hgv, hnm, het⟩ := id C0
  obtain ⟨D, tc, hK⟩ := st_K hts
  obtain ⟨E0, hE0⟩ : ∃ E0 : zEv, E0 = (l, fun o => s.heap.size + o, D, tc, s.heap.size, L, xs) := ⟨_, rfl⟩
  have hl0 : zl E0 = l := by rw [hE0]
  have hb0 : zb E0 = s.heap.size := by rw [hE0]
  have ha : ∀ o, zad E0 o = zb E0 + o := fun o => by rw [hE0]
  have hK0 : va_K (zD E0) vwCl (zts E0) s := by rw [hE0]; exact hK
  have hAO : va_AO "BlushCourt$Court" s := va_AO.of (hts _ (List.mem_append_right _ (List.mem_append_right _ (List.mem_append_left _ (List.mem_of_getElem? (i := 41) rfl)))))
  have hts1 : ∀ w ∈ zT, w.before #[Value.ref b] s = true := fun w hw => hts w (zin hw)
  have hF : yF E0 jL_law_ p s m #[Value.ref b] meth c := ⟨hx, hb, hret, hml, hown, hlk, hnm, hts1, hK0, ⟨by rw [hb0]; exact Nat.le_refl _, hAO⟩, ha⟩
  have hS : yS E0 [] s s.heap [] := ⟨fun k q h => by simp [yW] at h, by rw [hb0]; rfl, va_S.rf⟩
  have hl := lv_entry [.ref b] (n := 7) (Nat.le_of_ble_eq_true rfl)
  rw [lg_entry_eq]
  refine y_new (ci := 10) hF hS rfl zu_X11 tyX11 tyX11_ok zw_30 zw_31 zw_1 [.null, .null, .null, .null, .null, .null, .null, .null, .null, .null, .null, .int 0, .int 0] (fun j hj => (by decide : ∀ j, j < 13 → defaultValue (tyX11 j) = vp_V [.null, .null, .null, .null, .null, .null, .null, .null, .null, .null, .null, .int 0, .int 0] j) j hj) (Nat.le_of_ble_eq_true rfl) (Nat.le_of_ble_eq_true rfl) dL_law__0 (fun H1 hS => ?_)
  refine lv_dup hx hb dL_law__3 rfl ?_
  refine y_call (D := 3) (o := 0) hF hS yi_L_143 hl.1 hl0.symm (Nat.le_of_ble_eq_true rfl) (Nat.le_of_ble_eq_true rfl) (Nat.le_of_ble_eq_true rfl) (Nat.le_of_ble_eq_true rfl) (Nat.le_of_ble_eq_true rfl) dL_law__4 (c_X11 (D := 0) 0 [] rfl) (fun H1 locs1 hS => ?_)
  refine lv_astore_n (lv' := [(1, .ref (zad E0 0)), (0, .ref b)]) hx hb dL_law__7 rfl hl (by decide) rfl (fun Ls hl => ?_)
  refine y_new (ci := 11) hF hS rfl zu_X12 tyX12 tyX12_ok zw_1459 zw_1460 zw_12 [.int 0, .null, .null, .null, .null, .null, .int 0, .int 0, .null, .int 0, .int 0, .int 0, .int 0, .int 0, .int 0, .null, .int 0, .null, .null, .null, .null, .null, .null, .null, .null, .null, .null] (fun j hj => (by decide : ∀ j, j < 27 → defaultValue (tyX12 j) = vp_V [.int 0, .null, .null, .null, .null, .null, .int 0, .int 0, .null, .int 0, .int 0, .int 0, .int 0, .int 0, .int 0, .null, .int 0, .null, .null, .null, .null, .null, .null, .null, .null, .null, .null] j) j hj) (Nat.le_of_ble_eq_true rfl) (Nat.le_of_ble_eq_true rfl) dL_law__8 (fun H1 hS => ?_)
  have e252 : ([] ++ yb_X11 0).length = 252 := by rw [List.nil_append, yl_X11]
  rw [e252]
  refine lv_dup hx hb dL_law__11 rfl ?_
  refine y_call (D := 0) (o := 252) hF hS yi_L_146 hl.1 hl0.symm (Nat.le_of_ble_eq_true rfl) (Nat.le_of_ble_eq_true rfl) (Nat.le_of_ble_eq_true rfl) (Nat.le_of_ble_eq_true rfl) (Nat.le_of_ble_eq_true rfl) dL_law__12 (c_X12 (D := 0) 252 _ e252) (fun H1 locs1 hS => ?_)
  refine lv_astore_n (lv' := [(2, .ref (zad E0 252)), (1, .ref (zad E0 0)), (0, .ref b)]) hx hb dL_law__15 rfl hl (by decide) rfl (fun Ls hl => ?_)
  refine lv_iconst (v := (1 : Int32)) hx hb dL_law__16 rfl ?_
  refine y_newa (t := 3) (atype := .long) (N := 1) hF hS zw_178 rfl rfl (fun cA => rfl) (fun h => h) (by decide) rfl (by decide) (Nat.le_of_ble_eq_true rfl) (Nat.le_of_ble_eq_true rfl) dL_law__17 (fun H1 hS => ?_)
  have e270 : (([] ++ yb_X11 0) ++ yb_X12 252).length = 270 := by rw [List.nil_append, List.length_append, yl_X11, yl_X12]
  rw [e270]
  refine lv_astore_n (lv' := [(3, .ref (zad E0 270)), (2, .ref (zad E0 252)), (1, .ref (zad E0 0)), (0, .ref b)]) hx hb dL_law__19 rfl hl (by decide) rfl (fun Ls hl => ?_)
  refine lv_iconst (v := (0 : Int32)) hx hb dL_law__20 rfl ?_
  refine lv_istore (lv' := [(4, .int 0), (3, .ref (zad E0 270)), (2, .ref (zad E0 252)), (1, .ref (zad E0 0)), (0, .ref b)]) hx hb dL_law__21 hl (by decide) rfl (fun Ls hl => ?_)
  have hS2 : yS E0 ysF s H1 locs1 := by
    rw [List.nil_append, List.append_assoc] at hS
    exact hS
  refine W.eq (g2 := F0 m 23 Ls []) rfl ?_
  exact lw_loop hpure hst hL C0 hK0 hl0 ha hb0 hS2 hl (Nat.le_of_ble_eq_true rfl) (Nat.le_of_ble_eq_true rfl)
