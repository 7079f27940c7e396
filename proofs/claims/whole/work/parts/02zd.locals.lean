/-! ===== Z: stores, fields, arrays, returns ===== -/
section ZS
variable {E : zEv} {J : zJ} {D K pc k : Nat} {Q : zO → zM → Prop} {ls ls' st : List Value} {M : zM}
theorem z_istore_n {q : Fin 4} {x : Int32} (hd : decode J.2.1 pc = .ok (.istore_n q, 1)) (hn : (q : Nat) < J.2.2.1) (hs : zst1 ls (q : Nat) (.int x) = ls') (k0 : Z E J D K Q (pc + 1) k ls' st M) : Z E J D K Q pc k ls (.int x :: st) M := by
  intro p e s m args below meth c H locs Ls hF hP hL
  obtain ⟨Ls', e', -⟩ := lv_store1 (v := .int x) (zL_nil hL) hn rfl
  have hL' := zL_st1 (v := .int x) hL hn rfl e'
  rw [hs] at hL'
  intro T hT X
  obtain ⟨t, a, b⟩ := k0 p e s m args below meth c H locs Ls' hF hP hL' T hT X
  refine ⟨t, ?_, b⟩
  have hb := hF.2.1
  have hexec := hF.1
  show Steps p.tables e below (T.setTop (F0 m pc Ls (.int x :: st.map (zV E)))) t
  jvm_step X.here [X.here.top, ↓top_set X.here.top, hexec, hb, hd, e']
  exact a
theorem z_istore {i : Nat} {x : Int32} (hd : decode J.2.1 pc = .ok (.istore i, 2)) (hn : i < J.2.2.1) (hs : zst1 ls i (.int x) = ls') (k0 : Z E J D K Q (pc + 2) k ls' st M) : Z E J D K Q pc k ls (.int x :: st) M := by
  intro p e s m args below meth c H locs Ls hF hP hL
  obtain ⟨Ls', e', -⟩ := lv_store1 (v := .int x) (zL_nil hL) hn rfl
  have hL' := zL_st1 (v := .int x) hL hn rfl e'
  rw [hs] at hL'
  intro T hT X
  obtain ⟨t, a, b⟩ := k0 p e s m args below meth c H locs Ls' hF hP hL' T hT X
  refine ⟨t, ?_, b⟩
  have hb := hF.2.1
  have hexec := hF.1
  show Steps p.tables e below (T.setTop (F0 m pc Ls (.int x :: st.map (zV E)))) t
  jvm_step X.here [X.here.top, ↓top_set X.here.top, hexec, hb, hd, e']
  exact a
theorem z_lstore_n {q : Fin 4} {x : Int64} (hd : decode J.2.1 pc = .ok (.lstore_n q, 1)) (hn : (q : Nat) + 1 < J.2.2.1) (hs : zst2 ls (q : Nat) (.long x) = ls') (k0 : Z E J D K Q (pc + 1) k ls' st M) : Z E J D K Q pc k ls (.long x :: st) M := by
  intro p e s m args below meth c H locs Ls hF hP hL
  obtain ⟨Ls', e', -⟩ := lv_store2 (v := .long x) (zL_nil hL) hn rfl
  have hL' := zL_st2 (v := .long x) hL hn rfl e'
  rw [hs] at hL'
  intro T hT X
  obtain ⟨t, a, b⟩ := k0 p e s m args below meth c H locs Ls' hF hP hL' T hT X
  refine ⟨t, ?_, b⟩
  have hb := hF.2.1
  have hexec := hF.1
  show Steps p.tables e below (T.setTop (F0 m pc Ls (.long x :: st.map (zV E)))) t
  jvm_step X.here [X.here.top, ↓top_set X.here.top, hexec, hb, hd, e']
  exact a
theorem z_lstore {i : Nat} {x : Int64} (hd : decode J.2.1 pc = .ok (.lstore i, 2)) (hn : i + 1 < J.2.2.1) (hs : zst2 ls i (.long x) = ls') (k0 : Z E J D K Q (pc + 2) k ls' st M) : Z E J D K Q pc k ls (.long x :: st) M := by
  intro p e s m args below meth c H locs Ls hF hP hL
  obtain ⟨Ls', e', -⟩ := lv_store2 (v := .long x) (zL_nil hL) hn rfl
  have hL' := zL_st2 (v := .long x) hL hn rfl e'
  rw [hs] at hL'
  intro T hT X
  obtain ⟨t, a, b⟩ := k0 p e s m args below meth c H locs Ls' hF hP hL' T hT X
  refine ⟨t, ?_, b⟩
  have hb := hF.2.1
  have hexec := hF.1
  show Steps p.tables e below (T.setTop (F0 m pc Ls (.long x :: st.map (zV E)))) t
  jvm_step X.here [X.here.top, ↓top_set X.here.top, hexec, hb, hd, e']
  exact a
theorem z_astore_n {q : Fin 4} {x : Nat} (hd : decode J.2.1 pc = .ok (.astore_n q, 1)) (hn : (q : Nat) < J.2.2.1) (hs : zst1 ls (q : Nat) (.ref x) = ls') (k0 : Z E J D K Q (pc + 1) k ls' st M) : Z E J D K Q pc k ls (.ref x :: st) M := by
  intro p e s m args below meth c H locs Ls hF hP hL
  obtain ⟨Ls', e', -⟩ := lv_store1 (v := .ref (zad E x)) (zL_nil hL) hn rfl
  have hL' := zL_st1 (v := .ref x) hL hn rfl e'
  rw [hs] at hL'
  intro T hT X
  obtain ⟨t, a, b⟩ := k0 p e s m args below meth c H locs Ls' hF hP hL' T hT X
  refine ⟨t, ?_, b⟩
  have hb := hF.2.1
  have hexec := hF.1
  show Steps p.tables e below (T.setTop (F0 m pc Ls (.ref (zad E x) :: st.map (zV E)))) t
  jvm_step X.here [X.here.top, ↓top_set X.here.top, hexec, hb, hd, e']
  exact ⟨rfl, a⟩
theorem z_astore {i : Nat} {x : Nat} (hd : decode J.2.1 pc = .ok (.astore i, 2)) (hn : i < J.2.2.1) (hs : zst1 ls i (.ref x) = ls') (k0 : Z E J D K Q (pc + 2) k ls' st M) : Z E J D K Q pc k ls (.ref x :: st) M := by
  intro p e s m args below meth c H locs Ls hF hP hL
  obtain ⟨Ls', e', -⟩ := lv_store1 (v := .ref (zad E x)) (zL_nil hL) hn rfl
  have hL' := zL_st1 (v := .ref x) hL hn rfl e'
  rw [hs] at hL'
  intro T hT X
  obtain ⟨t, a, b⟩ := k0 p e s m args below meth c H locs Ls' hF hP hL' T hT X
  refine ⟨t, ?_, b⟩
  have hb := hF.2.1
  have hexec := hF.1
  show Steps p.tables e below (T.setTop (F0 m pc Ls (.ref (zad E x) :: st.map (zV E)))) t
  jvm_step X.here [X.here.top, ↓top_set X.here.top, hexec, hb, hd, e']
  exact ⟨rfl, a⟩
theorem z_iinc {i : Nat} {n : Int} {x : Int32} (hd : decode J.2.1 pc = .ok (.iinc i n, 3)) (hl : ls[i]? = some (.int x)) (hn : i < J.2.2.1) (hs : zst1 ls i (.int (x + Int32.ofInt n)) = ls') (k0 : Z E J D K Q (pc + 3) k ls' st M) : Z E J D K Q pc k ls st M := by
  intro p e s m args below meth c H locs Ls hF hP hL
  obtain ⟨Ls', e', -⟩ := lv_store1 (v := .int (x + Int32.ofInt n)) (zL_nil hL) hn rfl
  have hL' := zL_st1 (v := .int (x + Int32.ofInt n)) hL hn rfl e'
  rw [hs] at hL'
  have hg : Ls[i]? = some (.val (.int x)) := hL.2.2.2 _ _ hl (by intro h; cases h)
  intro T hT X
  obtain ⟨t, a, b⟩ := k0 p e s m args below meth c H locs Ls' hF hP hL' T hT X
  refine ⟨t, ?_, b⟩
  have hb := hF.2.1
  have hexec := hF.1
  jvm_step X.here [X.here.top, ↓top_set X.here.top, hexec, hb, hd, hg, e']
  exact a
end ZS
