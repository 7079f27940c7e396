/-- the addresses at the start -/
def zAd (b0 : Nat) (aK aV : Nat → Nat) (b fm : Nat) (o : Nat) : Nat := if o < 271 then b0 + zp o else if o < 320 then aK (o - 271) else if o < 400 then aV (o - 320) else if o = 400 then b else fm
def zEs (l : Launch) (D : va_G) (tc : Nat → ClassId) (b0 : Nat) (aK aV : Nat → Nat) (b fm L : Nat) (xs : Nat → Int32) : zEv := (l, zAd b0 aK aV b fm, D, tc, b0, L, xs)
theorem zAd_K (b0 : Nat) (aK aV : Nat → Nat) (b fm : Nat) {n : Nat} (h : n < 43) : zAd b0 aK aV b fm (271 + n) = aK n := by
  unfold zAd
  rw [if_neg (by omega), if_pos (by omega), Nat.add_sub_cancel_left]
theorem zAd_V (b0 : Nat) (aK aV : Nat → Nat) (b fm : Nat) {n : Nat} (h : n < 43) : zAd b0 aK aV b fm (320 + n) = aV n := by
  unfold zAd
  rw [if_neg (by omega), if_neg (by omega), if_pos (by omega), Nat.add_sub_cancel_left]
theorem zStrs_lt : zStrs.all (fun q => decide (q.2.2.2 < 43)) = true := by decide +kernel
theorem st_old {args : Array Value} {s : State} {b L : Nat} {xs : Nat → Int32} (hts : ∀ w ∈ lw_tbl, w.before args s = true) (hgv : (Jvm.Cond.and given_1 narrow_1).before args s = true) (hX : va_X b L xs s s.heap) (hbl : b < s.heap.size) : ∃ (aK aV : Nat → Nat) (fm : Nat), ∀ (l : Launch) (D : va_G) (tc : Nat → ClassId), zOld (zEs l D tc s.heap.size aK aV b fm L xs) s s.heap := by
  have hA : ∀ a : Nat, a < s.heap.size → ¬ (s.heap.size ≤ a) := fun a h => by omega
  have hlit : ∀ w, ∃ q : Nat × Nat, w < 43 → (va_O "java/lang/String" q.1 (fun a => s.heap.size ≤ a) s s.heap ∧ va_OF "java/lang/String" "coder" "B" (.int 0) q.1 (fun a => s.heap.size ≤ a) s s.heap ∧ va_OF "java/lang/String" "value" "[B" (.ref q.2) q.1 (fun a => s.heap.size ≤ a) s s.heap ∧ va_T .byte q.2 (zLitL.getD w 0) (fun j => .int ((zLitB.getD w []).getD j 0)) (fun a => s.heap.size ≤ a) s s.heap) ∧ (zTm w).eval args s none [] s = some (.ref q.1) := by
    intro w
    by_cases hw : w < 43
    · obtain ⟨q, hq⟩ := st_lit (A := fun a => s.heap.size ≤ a) hgv hA hw
      exact ⟨q, fun _ => hq⟩
    · exact ⟨(0, 0), fun h => absurd h hw⟩
  have hfmt := va_Zqof (A := fun a => s.heap.size ≤ a) (hts _ (List.mem_append_right _ (List.mem_append_right _ (List.mem_append_right _ (List.mem_append_left _ (List.mem_of_getElem? (i := 198) rfl)))))) (hts _ (List.mem_append_right _ (List.mem_append_left _ (List.mem_of_getElem? (i := 17) rfl)))) (st_subl [false, true, true, true, true, true, true, true, true, false, false] hgv rfl) hA
  obtain ⟨fm, hfm⟩ : ∃ fm : Nat, va_Z "jdk/internal/util/Preconditions" "SIOOBE_FORMATTER" "Ljava/util/function/BiFunction;" .null (fun a => s.heap.size ≤ a) s s.heap ∨ va_Z "jdk/internal/util/Preconditions" "SIOOBE_FORMATTER" "Ljava/util/function/BiFunction;" (.ref fm) (fun a => s.heap.size ≤ a) s s.heap := by
    rcases hfmt with h | ⟨t, h⟩
    · exact ⟨0, Or.inl h⟩
    · exact ⟨t, Or.inr h⟩
  let aK : Nat → Nat := fun w => (Classical.choose (hlit w)).1
  let aV : Nat → Nat := fun w => (Classical.choose (hlit w)).2
  have hl1 : ∀ w, w < 43 → va_O "java/lang/String" (aK w) (fun a => s.heap.size ≤ a) s s.heap ∧ va_OF "java/lang/String" "coder" "B" (.int 0) (aK w) (fun a => s.heap.size ≤ a) s s.heap ∧ va_OF "java/lang/String" "value" "[B" (.ref (aV w)) (aK w) (fun a => s.heap.size ≤ a) s s.heap ∧ va_T .byte (aV w) (zLitL.getD w 0) (fun j => .int ((zLitB.getD w []).getD j 0)) (fun a => s.heap.size ≤ a) s s.heap := fun w hw => (Classical.choose_spec (hlit w) hw).1
  have hl2 : ∀ w, w < 43 → (zTm w).eval args s none [] s = some (.ref (aK w)) := fun w hw => (Classical.choose_spec (hlit w) hw).2
  have hR := st_R (aK := aK) hts hgv hl2
  refine ⟨aK, aV, fm, fun l D tc => ?_⟩
  refine ⟨vx_Zqof (hts _ (List.mem_append_right _ (List.mem_append_right _ (List.mem_append_right _ (List.mem_append_right _ (List.mem_append_left _ (List.mem_of_getElem? (i := 69) rfl))))))) (hts _ (List.mem_append_right _ (List.mem_append_left _ (List.mem_of_getElem? (i := 19) rfl)))) (st_subl [false, true, true, true, true, true, true, true, false, false, false] hgv rfl) hA, vx_Zqof (hts _ (List.mem_append_right _ (List.mem_append_right _ (List.mem_append_right _ (List.mem_append_right _ (List.mem_append_left _ (List.mem_of_getElem? (i := 71) rfl))))))) (hts _ (List.mem_append_right _ (List.mem_append_left _ (List.mem_of_getElem? (i := 19) rfl)))) (st_subl [false, true, true, true, true, true, true, false, true, true, true] hgv rfl) hA, va_Zof (hts _ (List.mem_append_right _ (List.mem_append_right _ (List.mem_append_right _ (List.mem_append_left _ (List.mem_of_getElem? (i := 182) rfl)))))) (hts _ (List.mem_append_right _ (List.mem_append_left _ (List.mem_of_getElem? (i := 15) rfl)))) (va_eqi (st_subl [false, true, true, true, true, true, true, true, true, false, true] hgv rfl)) hA, ⟨fun i hi => ?_, fun i j hi hj h => ?_⟩, hfm, ⟨hX, ?_⟩, ⟨va_Nc.of (st_subl [false, true, true, true, true, false, false, true, false, true, false] hgv rfl), va_Nc.of (st_subl [false, true, true, true, true, true, false, true, false, true, false] hgv rfl), va_Nc.of (st_subl [false, true, true, true, true, false, false, true, true, false, false] hgv rfl)⟩, fun i q hq => ?_⟩
  · show va_O "java/lang/String" (zAd s.heap.size aK aV b fm (271 + i)) (fun a => s.heap.size ≤ a) s s.heap ∧ va_OF "java/lang/String" "coder" "B" (.int 0) (zAd s.heap.size aK aV b fm (271 + i)) (fun a => s.heap.size ≤ a) s s.heap ∧ va_OF "java/lang/String" "value" "[B" (.ref (zAd s.heap.size aK aV b fm (320 + i))) (zAd s.heap.size aK aV b fm (271 + i)) (fun a => s.heap.size ≤ a) s s.heap ∧ va_T .byte (zAd s.heap.size aK aV b fm (320 + i)) (zLitL.getD i 0) (fun j => .int ((zLitB.getD i []).getD j 0)) (fun a => s.heap.size ≤ a) s s.heap
    rw [zAd_K _ _ _ _ _ hi, zAd_V _ _ _ _ _ hi]
    exact hl1 i hi
  · have h2 : zAd s.heap.size aK aV b fm (271 + i) = zAd s.heap.size aK aV b fm (271 + j) := h
    rw [zAd_K _ _ _ _ _ hi, zAd_K _ _ _ _ _ hj] at h2
    exact st_inj hl1 hi hj h2
  · show ¬ s.heap.size ≤ zAd s.heap.size aK aV b fm 400
    have : zAd s.heap.size aK aV b fm 400 = b := rfl
    rw [this]
    omega
  · have h2 := hR i q hq
    have h3 := of_decide_eq_true (List.all_eq_true.mp zStrs_lt q (List.mem_of_getElem? hq))
    show vk_R q.1 q.2.1 q.2.2.1 (zAd s.heap.size aK aV b fm (271 + q.2.2.2)) s
    rw [zAd_K _ _ _ _ _ h3]
    exact h2
