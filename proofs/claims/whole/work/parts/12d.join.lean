/-! ===== asks, sharp, stands: the two halves joined ===== -/
section JOIN
variable {E : zEv} {D : Nat} {px : String → zM → Prop} {M : zM} {K : zM → Prop} {f : zRow}
theorem zv_nI {x : Int32} {q n : Nat} (e : x = nI q) (h : q < n) (hn : n < 2 ^ 31) : zv x n := by
  rw [e]
  exact ⟨nI_nlt (Nat.zero_le _) (by omega), nI_lt h hn⟩
theorem op_asks {x : Int32} (h : Rel M) (hK : ∀ M', Rel M' → K M') : zCWi E jL_asks (D + 20) 1 [.ref 19, .int x, .ref 18] M (opR E jX12_asks (D + 20) [.ref 0, .int x] K) := by
  have b8 := h.ok.q.2
  refine oc_asks (D := D + 18) h (fun q hq ex M1 z1 l1 px => ?_) (fun c px => or_asks (D := D + 18) h.ok (fun q hq ex => absurd (zv_nI ex hq (by omega)) c) (fun _ => bad_end h hK (by decide)))
  have e1 : M1.1 1 = M.1 1 := zpi_w z1
  refine or_asks (D := D + 18) (by rw [e1]; exact h.ok) (fun q' hq' ex' => ⟨zup_s, fun _ => ?_, hK _ (h.same ((zpi_up rfl).trans z1))⟩) (fun c => absurd (zv_nI ex (by rw [e1]; exact hq) (by rw [e1]; omega)) c)
  have : q' = q := (nI_eq (by rw [e1] at hq'; omega) (by omega)).mp (ex'.symm.trans ex)
  rw [zup_L, l1, this, e1]
theorem op_sharp {x : Int32} (h : Rel M) (hK : ∀ M', Rel M' → K M') : zCWi E jL_sharp (D + 20) 1 [.ref 19, .int x, .ref 18] M (opR E jX12_sharp (D + 20) [.ref 0, .int x] K) := by
  have b8 := h.ok.k.2
  refine oc_sharp (D := D + 18) h (fun q hq ex M1 z1 l1 px => ?_) (fun c px => or_sharp (D := D + 18) h.ok (fun q hq ex => absurd (zv_nI ex hq (by omega)) c) (fun _ => bad_end h hK (by decide)))
  have e1 : M1.1 1 = M.1 1 := zpi_w z1
  refine or_sharp (D := D + 18) (by rw [e1]; exact h.ok) (fun q' hq' ex' => ⟨zup_s, fun _ => ?_, hK _ (h.same ((zpi_up rfl).trans z1))⟩) (fun c => absurd (zv_nI ex (by rw [e1]; exact hq) (by rw [e1]; omega)) c)
  have : q' = q := (nI_eq (by rw [e1] at hq'; omega) (by omega)).mp (ex'.symm.trans ex)
  rw [zup_L, l1, this, e1]
theorem op_stands {x : Int32} (h : Rel M) (hK : ∀ M', Rel M' → K M') : zCWi E jL_stands (D + 20) 1 [.ref 19, .int x, .ref 18] M (opR E jX12_stands (D + 20) [.ref 0, .int x] K) := by
  have b8 := h.ok.w.2
  refine oc_stands (D := D + 18) h (fun q hq ex M1 z1 l1 px => ?_) (fun c px => or_stands (D := D + 18) h.ok (fun q hq ex => absurd (zv_nI ex hq (by omega)) c) (fun _ => bad_end h hK (by decide)))
  have e1 : M1.1 1 = M.1 1 := zpi_w z1
  refine or_stands (D := D + 18) (by rw [e1]; exact h.ok) (fun q' hq' ex' => ⟨zup_s, fun _ => ?_, hK _ (h.same ((zpi_up rfl).trans z1))⟩) (fun c => absurd (zv_nI ex (by rw [e1]; exact hq) (by rw [e1]; omega)) c)
  have : q' = q := (nI_eq (by rw [e1] at hq'; omega) (by omega)).mp (ex'.symm.trans ex)
  rw [zup_L, l1, this, e1]
end JOIN
