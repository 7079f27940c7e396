/-! ===== the numbers at the start are related ===== -/
theorem z0_21 (j : Nat) : zM0.1 21 j = nI 0 := rfl
theorem z0_6 (j : Nat) : zM0.1 6 j = (nI 0).toInt8.toInt32 := rfl
theorem z0_ok : okF (zM0.1 1) := by
  refine ⟨⟨⟨0, by decide, by decide +kernel⟩, ⟨0, by decide, by decide +kernel⟩, ⟨0, by decide, by decide +kernel⟩, ⟨0, by decide, by decide +kernel⟩, ⟨0, by decide, by decide +kernel⟩, ⟨0, by decide, by decide +kernel⟩, ⟨0, by decide, by decide +kernel⟩, ⟨3, by decide, by decide +kernel⟩, ⟨0, by decide, by decide +kernel⟩, ⟨0, by decide, by decide +kernel⟩, ⟨0, by decide, by decide +kernel⟩⟩, fun i hi => ?_, fun i hi => ?_, fun i hi => ?_, fun i hi => ?_⟩
  · exact absurd hi (by rw [show wN (zM0.1 1) = 0 by decide +kernel]; exact Nat.not_lt_zero i)
  · exact absurd hi (by rw [show tN (zM0.1 1) = 0 by decide +kernel]; exact Nat.not_lt_zero i)
  · exact absurd hi (by rw [show qN (zM0.1 1) = 0 by decide +kernel]; exact Nat.not_lt_zero i)
  · exact absurd hi (by rw [show kN (zM0.1 1) = 0 by decide +kernel]; exact Nat.not_lt_zero i)
theorem z0_cr : cR zM0 61 (zM0.1 1) := by
  refine ⟨⟨by decide +kernel, by decide +kernel, by decide +kernel, by decide +kernel, by decide +kernel, by decide +kernel, by decide +kernel, by decide +kernel, by decide +kernel, by decide +kernel, by decide +kernel⟩, fun i hi => ?_, fun i hi => ?_, fun i hi => ?_, fun i hi => ?_, by decide +kernel, 0, by decide, by decide +kernel, fun i hi => ?_⟩
  · exact absurd hi (by rw [show wN (zM0.1 1) = 0 by decide +kernel]; exact Nat.not_lt_zero i)
  · exact absurd hi (by rw [show tN (zM0.1 1) = 0 by decide +kernel]; exact Nat.not_lt_zero i)
  · exact absurd hi (by rw [show qN (zM0.1 1) = 0 by decide +kernel]; exact Nat.not_lt_zero i)
  · exact absurd hi (by rw [show kN (zM0.1 1) = 0 by decide +kernel]; exact Nat.not_lt_zero i)
  · exact absurd hi (by rw [show gN (zM0.1 1) = 0 by decide +kernel]; exact Nat.not_lt_zero i)
theorem z0_rel : Rel zM0 := Rel.of ⟨z0_ok, z0_cr, ⟨fun _ => by decide +kernel, fun z => absurd z (by decide +kernel)⟩, ⟨0, by decide, by decide +kernel, by decide +kernel, fun j _ => ⟨0, by decide, z0_21 j, z0_6 j⟩⟩, by decide +kernel, ⟨by decide +kernel, Or.inl (by decide +kernel)⟩, 0, 0, by decide, by decide, by decide +kernel, by decide +kernel, by decide +kernel, fun k hk => absurd hk (Nat.not_lt_zero k)⟩
