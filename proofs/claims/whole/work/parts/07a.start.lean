theorem zw_31 : (Cond.instantiable "BlushCourt" 13) ∈ zT := zq_1 31 rfl rfl
theorem zw_1460 : (Cond.instantiable "BlushCourtModel" 27) ∈ zT := zq_7 20 rfl rfl
theorem zin {w : Cond} (h : w ∈ zT) : w ∈ lw_tbl := (List.mem_filter.mp h).1
theorem st_arr {args : Array Value} {s : State} {ty : FieldType} (hp : ∀ c, ty ≠ .object c) (h : (Cond.arrayClass ty).before args s = true) : ∃ cA : ClassId, ArrOfT s cA ty ∧ s.vm.findClass ("[" ++ ty.toString) = some cA := by
  obtain ⟨c, k, comp, h1, h2, h3⟩ := Cond.arrayClass_spec h
  exact ⟨c, fun n z => ⟨(fun q hq => by cases hq), k, h2, comp, h3⟩, h1⟩
theorem st_K {args : Array Value} {s : State} (hts : ∀ w ∈ lw_tbl, w.before args s = true) : ∃ (D : va_G) (tc : Nat → ClassId), va_K D vwCl [(tc 0, .int), (tc 1, .byte), (tc 2, .boolean), (tc 3, .long), (tc 4, .object "BlushCourt$Court")] s := by
  obtain ⟨c0, i0, k0⟩ := u_known (C := RX0) (T := TX0) (N := 4) (n := 4) hts (fun w h => zin (zu_X0 w h)) (hts _ (zin zw_343))
  obtain ⟨c1, i1, k1⟩ := u_known (C := RX1) (T := TX1) (N := 5) (n := 5) hts (fun w h => zin (zu_X1 w h)) (hts _ (zin zw_295))
  obtain ⟨c2, i2, k2⟩ := u_known (C := RX2) (T := TX2) (N := 3) (n := 3) hts (fun w h => zin (zu_X2 w h)) (hts _ (zin zw_364))
  obtain ⟨c3, i3, k3⟩ := u_known (C := RX3) (T := TX3) (N := 16) (n := 16) hts (fun w h => zin (zu_X3 w h)) (hts _ (zin zw_97))
  obtain ⟨c4, i4, k4⟩ := u_known (C := RX5) (T := TX5) (N := 3) (n := 3) hts (fun w h => zin (zu_X5 w h)) (hts _ (zin zw_275))
  obtain ⟨c5, i5, k5⟩ := u_known (C := RX6) (T := TX6) (N := 8) (n := 8) hts (fun w h => zin (zu_X6 w h)) (hts _ (zin zw_64))
  obtain ⟨c6, i6, k6⟩ := u_known (C := RX7) (T := TX7) (N := 3) (n := 3) hts (fun w h => zin (zu_X7 w h)) (hts _ (zin zw_162))
  obtain ⟨c7, i7, k7⟩ := u_known (C := RX8) (T := TX8) (N := 7) (n := 7) hts (fun w h => zin (zu_X8 w h)) (hts _ (zin zw_103))
  obtain ⟨c8, i8, k8⟩ := u_known (C := RX9) (T := TX9) (N := 5) (n := 5) hts (fun w h => zin (zu_X9 w h)) (hts _ (zin zw_39))
  obtain ⟨c9, i9, k9⟩ := u_known (C := RX10) (T := TX10) (N := 4) (n := 4) hts (fun w h => zin (zu_X10 w h)) (hts _ (zin zw_324))
  obtain ⟨c10, i10, k10⟩ := u_known (C := RX11) (T := TX11) (N := 13) (n := 13) hts (fun w h => zin (zu_X11 w h)) (hts _ (zin zw_31))
  obtain ⟨c11, i11, k11⟩ := u_known (C := RX12) (T := TX12) (N := 27) (n := 27) hts (fun w h => zin (zu_X12 w h)) (hts _ (zin zw_1460))
  obtain ⟨a0, b0, f0⟩ := st_arr (ty := .int) (fun _ h => by cases h) (hts _ (zin zw_62))
  obtain ⟨a1, b1, f1⟩ := st_arr (ty := .byte) (fun _ h => by cases h) (hts _ (zin zw_830))
  obtain ⟨a2, b2, f2⟩ := st_arr (ty := .boolean) (fun _ h => by cases h) (hts _ (zin zw_1547))
  obtain ⟨a3, b3, f3⟩ := st_arr (ty := .long) (fun _ h => by cases h) (hts _ (zin zw_178))
  obtain ⟨comp, a4, kA, g1, g2, g3, g4, g5⟩ := Cond.arrayOver_spec (hts _ (List.mem_append_right _ (List.mem_append_right _ (List.mem_append_left _ (List.mem_of_getElem? (i := 41) rfl)))))
  refine ⟨(fun k => if k = 0 then c0 else if k = 1 then c1 else if k = 2 then c2 else if k = 3 then c3 else if k = 4 then c4 else if k = 5 then c5 else if k = 6 then c6 else if k = 7 then c7 else if k = 8 then c8 else if k = 9 then c9 else if k = 10 then c10 else c11, fun k => if k = 0 then i0 else if k = 1 then i1 else if k = 2 then i2 else if k = 3 then i3 else if k = 4 then i4 else if k = 5 then i5 else if k = 6 then i6 else if k = 7 then i7 else if k = 8 then i8 else if k = 9 then i9 else if k = 10 then i10 else i11), (fun k => if k = 0 then a0 else if k = 1 then a1 else if k = 2 then a2 else if k = 3 then a3 else a4), ⟨?_, ?_⟩⟩
  · intro k q hq
    match k, hq with
    | 0, hq => cases hq; exact k0
    | 1, hq => cases hq; exact k1
    | 2, hq => cases hq; exact k2
    | 3, hq => cases hq; exact k3
    | 4, hq => cases hq; exact k4
    | 5, hq => cases hq; exact k5
    | 6, hq => cases hq; exact k6
    | 7, hq => cases hq; exact k7
    | 8, hq => cases hq; exact k8
    | 9, hq => cases hq; exact k9
    | 10, hq => cases hq; exact k10
    | 11, hq => cases hq; exact k11
    | k + 12, hq => simp [vwCl] at hq
  · intro k q hq
    match k, hq with
    | 0, hq => cases hq; exact ⟨b0, f0⟩
    | 1, hq => cases hq; exact ⟨b1, f1⟩
    | 2, hq => cases hq; exact ⟨b2, f2⟩
    | 3, hq => cases hq; exact ⟨b3, f3⟩
    | 4, hq => cases hq; exact ⟨fun n z => ⟨(fun q hq => by cases hq), kA, g3, comp, g4⟩, kA, comp, g3, g4, g1, g5⟩
    | k + 5, hq => simp at hq
