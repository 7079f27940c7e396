/-! ===== couples: the two halves joined ===== -/
section OPCOUPLES2
variable {E : zEv} {D : Nat} {px : String → zM → Prop} {M : zM} {K : zM → Prop}
theorem cw_pi {M' M : zM} (h : cw M' M) : zpi M' = zpi M := zpi_of (fun o j hi => by
  have h56 : o ≠ 56 := fun q => by rw [q] at hi; cases hi
  have h57 : o ≠ 57 := fun q => by rw [q] at hi; cases hi
  have h58 : o ≠ 58 := fun q => by rw [q] at hi; cases hi
  exact ⟨by rw [h.1 o h56 h57 h58], by rw [h.2]⟩)
theorem op_couples {x : Int32} (h : Rel M) (hK : ∀ M', Rel M' → K M') : zCWi E jL_couples (D + 20) 1 [.ref 19, .int x, .ref 18] M (opR E jX12_couples (D + 20) [.ref 0, .int x] K) := by
  have k4 := h.ok.k
  have hk := h.ok
  have k16 := two_k hk
  have p0 : 0 < 2 ^ kN (M.1 1) := Nat.two_pow_pos _
  have lays : ∀ (M1 M0 : zM) (v : Int32) (post : Int32 → zM → Prop) (px : String → zM → Prop) (y : Int32), zpi M1 = zpi M → M0 = zup (zupL M1 18 0 v.toInt64) 0 0 0 → (∀ M9, (∀ S, S < 2 ^ kN (M.1 1) → M9.1 16 S = nI (cpF (M.1 1) S).1) → M9.1 1 = M.1 1 → ro M9 (zupL M1 18 0 v.toInt64) → (¬ y = -1 → w_X12_couples_63 E (D + 19) post px y (nI (2 ^ kN (M.1 1) - 1)) (-1) 0 M9) ∧ (y = -1 → post (M9.1 16 (2 ^ kN (M.1 1) - 1)) M9)) → w_X12_couples_23 E (D + 19) post px y M0 := by
    intro M1 M0 v post px y z1 e0 hM
    have w0 : M0.1 1 = M.1 1 := by rw [e0, zup_o (by decide), zupL_I]; exact zpi_w z1
    refine t_X12_couples_23 (t_X12_couples_24 (s_throws0 (z0A (s_X12_laysUnlikely w0 hk (fun M7 a1 a2 a3 => e_X12_women ?_)))))
    have w7 : M7.1 1 = M.1 1 := by rw [a2 1 (by decide), w0]
    rw [show M7.1 1 ((3 : Int32)).toNatClampNeg = nI (kN (M.1 1)) by rw [w7]; exact k4.1, all_nI (by omega)]
    have r7 : ro M7 (zupL M1 18 0 v.toInt64) := by
      refine ⟨by rw [a2 0 (by decide), e0, zup_s], by rw [a3, e0, zup_L], ?_⟩
      have : zpi M7 = zpi M0 := zpi_of (fun o j hi => by
        have h16 : o ≠ 16 := fun q => by rw [q] at hi; cases hi
        exact ⟨by rw [a2 o h16], by rw [a3]⟩)
      rw [this, e0, zpi_up rfl]
    obtain ⟨c1, c2⟩ := hM M7 a1 w7 r7
    refine ⟨fun z => c1 z, fun z => ⟨pk_in _ _ (show 2 ^ kN (M.1 1) - 1 < 16 by omega), ?_⟩⟩
    rw [nI_clamp (by omega)]
    exact c2 z
  have bad : x ≠ -1 → ¬ zv x (kN (M.1 1)) → opR E jX12_couples (D + 20) [.ref 0, .int x] K 1 M := fun c1 c2 px => by
    refine e_X12_couples (fun M1 e1 => ⟨fun z => absurd z c1, fun _ => s_X12_noWoman (n := kN (M.1 1)) (by rw [e1]; exact k4.1) (by omega) (fun z => absurd z c2) (fun _ => z1B (t_X12_couples_24 (s_throws1 (z1B ?_))))⟩)
    rw [e1]
    exact bad_end h hK (by decide)
  refine e_L_couples (e_X11_couples ⟨fun c1 => t_X11_couples_10 (s_X2_search h.now hk (fun M1 a1 a2 a3 => ⟨fun z => absurd c1 z, fun _ => t_X11_couples_45 (fun M4 e4 px => ?_)⟩)), fun c1 => s_X11_needWoman (n := kN (M.1 1)) h.nK (fun c2 => ?_) (fun c2 => ⟨rfl, bad c1 c2⟩)⟩)
  · rw [n0] at e4
    subst e4
    refine e_X12_couples (fun M2 e2 => ⟨fun _ => lays M1 M2 _ _ px x (cw_pi a3) e2 (fun M9 b1 b2 b3 => ⟨fun z => absurd c1 z, fun _ => ?_⟩), fun z => absurd c1 z⟩)
    exact ok_fin h hK (cw_pi a3) b3 (by rw [b1 _ (by omega), a1])
  · obtain ⟨w, hw, rfl⟩ := c2.get (by omega)
    refine t_X11_couples_10 (s_X2_search h.now hk (fun M1 a1 a2 a3 => ⟨fun _ => ⟨pk_in w _ (by omega), t_X11_couples_45 (fun M4 e4 px => ?_)⟩, fun z => absurd z c1⟩))
    rw [n0, nI_clamp (by omega)] at e4
    subst e4
    refine e_X12_couples (fun M2 e2 => ⟨fun z => absurd z c1, fun _ => s_X12_noWoman (n := kN (M.1 1)) (by rw [e2, zup_o (by decide), zupL_I, zpi_w (cw_pi a3)]; exact k4.1) (by omega) (fun _ => z0A ?_) (fun z => absurd c2 z)⟩)
    refine lays M1 M2 _ _ px (nI w) (cw_pi a3) e2 (fun M9 b1 b2 b3 => ⟨fun _ => ?_, fun z => absurd z c1⟩)
    exact s_greedy (D := D + 16) b2 hk b1 hw _ (by omega) ((full_tb _ w).mpr hw) _ (ok_fin h hK (cw_pi a3) b3 (by rw [a2 w hw]))
end OPCOUPLES2
