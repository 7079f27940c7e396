/-! ===== acts that change one number: powder, drink, words, tell; seed ===== -/
section OPA
variable {f : zRow} {E : zEv} {D : Nat} {post : zM → Prop} {px : String → zM → Prop} {M : zM} {K : zM → Prop}
theorem act_fin {M' M2 : zM} {O J i n : Nat} {v u : Int32} {x : Int64} (h : Rel M) (hO : 61 ≤ O) (hO2 : O < 75) (hA : ∀ M1, (∀ o j, irr o j = false → (o < 61 ∨ 75 ≤ o) → M1.1 o j = M'.1 o j ∧ M1.2 o j = M'.2 o j) → actC M M1) (hS : ∀ o j, 61 ≤ o → o < 75 → M'.1 o j = M.1 o j ∧ M'.2 o j = M.2 o j) (hW : ∀ j, M'.1 0 j = M.1 0 j ∧ M'.1 1 j = M.1 1 j) (hn : n ≤ 12) (h7 : M.1 0 7 = nI n)
    (f1 : actF (zup (zupL (zup M' O J v) 18 0 x) 0 0 0) M2 n) (f2 : M2.1 1 = upd ((zup (zupL (zup M' O J v) 18 0 x) 0 0 0).1 1) i u) (h5 : 5 ≠ i) (hk : okF (upd (M.1 1) i u))
    (hc : ∀ M1, (∀ o j, 61 ≤ o → o < 61 + 14 → ¬ (o = O ∧ j = J) → M1.1 o j = M.1 o j) → (∀ j, M1.2 (61 + 9) j = M.2 (61 + 9) j) → M1.1 O J = v → cR M1 61 (upd (M.1 1) i u)) : Rel M2 := by
  obtain ⟨k1, k2, k3, k4⟩ := act1 (O := O) (J := J) (v := v) (x := x) hO hO2 hA hS
  have hw : (zup (zupL (zup M' O J v) 18 0 x) 0 0 0).1 1 = M.1 1 := funext fun j => (m1 rfl (by omega)).1.trans (hW j).2
  rw [hw] at f2
  refine h.act k1 (fun n' hn' h7' => ?_) (by rw [f2]; exact hk) (by rw [f2]; exact hc _ k2 k3 k4) (by rw [f2]; exact pk_un h5)
  rw [show n' = n from (nI_eq (by omega) (by omega)).mp (h7'.symm.trans h7)]
  exact f1
theorem act_7 {M' : zM} {O J n : Nat} {v : Int32} {x : Int64} (hO : 61 ≤ O) (hW : ∀ j, M'.1 0 j = M.1 0 j ∧ M'.1 1 j = M.1 1 j) (h7 : M.1 0 7 = nI n) : (zup (zupL (zup M' O J v) 18 0 x) 0 0 0).1 0 7 = nI n := ((m1 rfl (by omega)).1.trans (hW 7).1).trans h7
theorem act_w {M' : zM} {O J j : Nat} {v : Int32} {x : Int64} (hO : 61 ≤ O) (hW : ∀ j, M'.1 0 j = M.1 0 j ∧ M'.1 1 j = M.1 1 j) : (zup (zupL (zup M' O J v) 18 0 x) 0 0 0).1 1 j = M.1 1 j := (m1 rfl (by omega)).1.trans (hW j).2
theorem Rel.wit {w : Nat} (h : Rel M) (hw : w < wN (M.1 1)) : cR2 M 61 (M.1 1) w := h.now.2.1 w hw
theorem op_powder {x : Int32} (h : Rel M) (hK : ∀ M', Rel M' → K M') : zCWi E jL_powder (D + 5) 1 [.ref 19, .int x, .ref 18] M (opR E jX12_powder (D + 5) [.ref 0, .int x] K) := by
  obtain ⟨n, hn, h7⟩ := h.rem
  have w5 := h.ok.w
  have hc0 : M.1 62 6 = nI (wN (M.1 1)) := h.now.1.1.trans w5.1
  refine e_L_powder (e_X11_powder (s_X11_needWitness hc0 (fun c => ?_) (fun c => ⟨rfl, fun px => ?_⟩)))
  · obtain ⟨w, hw, rfl⟩ := c.get (by omega)
    refine s_remember h (fun M' hA hS hW => ⟨pk_in w _ (by omega), pk_in w _ (by omega), fun M9 e9 M4 e4 px => ?_⟩)
    rw [nI_clamp (by omega)] at e9 e4
    rw [(hS 66 w (by decide) (by decide)).1, n0] at e4
    subst e9 e4
    refine e_X12_powder (fun M1 e1 => s_X12_noWitness (n := wN (M.1 1)) (by rw [e1, act_w (by decide) hW]; exact w5.1) (by omega) (fun _ => s_throws0 (z0A (s_X12_at (what := 3) (s_X12_isNow (n := n) (by omega) hn ?_ (fun M2 f1 f2 f3 f4 => t_X12_powder_32 ⟨?_, fun _ => ?_, hK _ ?_⟩))))) (fun z => absurd c z))
    · subst e1; exact act_7 (by decide) hW h7
    · rw [f4, e1]; exact zup_s
    · subst e1
      rw [f3, act_w (by decide) hW]
      show (zupL (zup M' 66 w 0) 18 0 (M.1 66 w).toInt64).2 18 0 = _
      rw [zupL_s, (h.wit hw).2.2.2.1]
    · subst e1
      exact act_fin h (by decide) (by decide) hA hS hW hn h7 f1 f2 (by omega) (ok_shade h.ok hw (isN.of (by decide : 0 ≤ 99))) (fun M1 a b c => cr_shade h.ok hw h.now a b c)
  · refine e_X12_powder (fun M1 e1 => s_X12_noWitness (n := wN (M.1 1)) (by rw [e1]; exact w5.1) (by omega) (fun z => absurd z c) (fun _ => s_throws1 (z1B (t_X12_powder_32 ?_))))
    rw [e1]; exact bad_end h hK (by decide)
theorem op_drink {x y : Int32} (h : Rel M) (hK : ∀ M', Rel M' → K M') : zCWi E jL_drink (D + 5) 2 [.ref 19, .int x, .int y, .ref 18] M (opR E jX12_drink (D + 5) [.ref 0, .int x, .int y] K) := by
  obtain ⟨n, hn, h7⟩ := h.rem
  have w5 := h.ok.w
  have hc0 : M.1 62 6 = nI (wN (M.1 1)) := h.now.1.1.trans w5.1
  refine e_L_drink (e_X11_drink (s_X11_needWitness hc0 (fun c => ?_) (fun c => Or.inl ⟨rfl, fun px => ?_⟩)))
  · obtain ⟨w, hw, rfl⟩ := c.get (by omega)
    have hd := (h.ok.2.1 w hw).2.2.1
    have hdc := (h.wit hw).2.2.1
    by_cases c2 : zr y 1 99
    · obtain ⟨v, hv1, hv, rfl⟩ := c2.get (by decide) (by decide)
      obtain ⟨d, hd1, hd2⟩ := hd
      refine ⟨fun z => absurd z c2.1, fun _ => ⟨fun _ => s_remember h (fun M' hA hS hW => ⟨pk_in w _ (by omega), pk_in w _ (by omega), fun M15 e15 => ⟨pk_in w _ (by omega), fun M4 e4 px => ?_⟩⟩), fun z => absurd c2.2 z⟩⟩
      rw [nI_clamp (by omega)] at e15 e4
      have ev : zmin 99 (M'.1 65 w + nI v) = nI (min 99 (d + v)) := by
        rw [(hS 65 w (by decide) (by decide)).1, show M.1 65 w = nI d from hdc.trans hd2, nI_add]
        exact zmin_nI (a := 99) (by decide) (by omega)
      rw [ev] at e15
      rw [e15, zup_s, n0] at e4
      subst e15 e4
      refine e_X12_drink (fun M1 e1 => s_X12_noWitness (n := wN (M.1 1)) (by rw [e1, act_w (by decide) hW]; exact w5.1) (by omega) (fun _ => s_throws0 (z0B (s_in_rg (a := 1) (b := 99) (fun _ => z1A (t_X12_drink_34 (s_throws0 (z0A (s_X12_at (what := 2) (s_X12_of (what := 2) (by omega) ?_)))))) (fun z => absurd c2 z)))) (fun z => absurd c z))
      have ew : zmin 99 (M1.1 1 (29 + 5 * w + 2) + nI v) = nI (min 99 (d + v)) := by
        rw [e1, act_w (by decide) hW, hd2, nI_add]
        exact zmin_nI (a := 99) (by decide) (by omega)
      rw [ew]
      refine s_X12_isNow (n := n) (by omega) hn ?_ (fun M2 f1 f2 f3 f4 => s_X12_of (what := 2) (by omega) ⟨?_, fun _ => ?_, hK _ ?_⟩)
      · subst e1; exact act_7 (by decide) hW h7
      · rw [f4, e1]; exact zup_s
      · subst e1
        rw [f3, f2, pk_us]
        rw [zup_L, zupL_s]
      · subst e1
        exact act_fin h (by decide) (by decide) hA hS hW hn h7 f1 f2 (by omega) (ok_drink h.ok hw (isN.of (by omega))) (fun M1 a b c => cr_drink h.ok hw h.now a b c)
    · have bad : opR E jX12_drink (D + 5) [.ref 0, .int (nI w), .int y] K 2 M := fun px => e_X12_drink (fun M1 e1 => s_X12_noWitness (n := wN (M.1 1)) (by rw [e1]; exact w5.1) (by omega) (fun _ => s_throws0 (z0B (s_in_rg (a := 1) (b := 99) (fun z => absurd z c2) (fun _ => z0B (t_X12_drink_34 (s_throws1 (z1B (t_X12_drink_41 (by rw [e1]; exact bad_end h hK (by decide)))))))))) (fun z => absurd c z))
      exact ⟨fun z => t_X11_drink_16 (Or.inr ⟨rfl, bad⟩), fun z => ⟨fun z2 => absurd ⟨z, z2⟩ c2, fun _ => t_X11_drink_16 (Or.inr ⟨rfl, bad⟩)⟩⟩
  · exact e_X12_drink (fun M1 e1 => s_X12_noWitness (n := wN (M.1 1)) (by rw [e1]; exact w5.1) (by omega) (fun z => absurd z c) (fun _ => s_throws1 (z1A (t_X12_drink_41 (by rw [e1]; exact bad_end h hK (by decide))))))
theorem all_nI {t : Nat} (h : t ≤ 6) : (1 : Int32) <<< (nI t &&& 31) - 1 = nI (2 ^ t - 1) := by
  have : ∀ j : Fin 7, (1 : Int32) <<< (nI j.val &&& 31) - 1 = nI (2 ^ j.val - 1) := by decide +kernel
  exact this ⟨t, by omega⟩
theorem all_cnt {t : Nat} (h : t ≤ 8) : (1 : Int32) <<< (nI t &&& 31) = nI (2 ^ t) := by
  have : ∀ j : Fin 9, (1 : Int32) <<< (nI j.val &&& 31) = nI (2 ^ j.val) := by decide +kernel
  exact this ⟨t, by omega⟩
theorem and_all {x : Int32} {t : Nat} (h : t ≤ 6) : isN (x &&& nI (2 ^ t - 1)) (2 ^ t - 1) := by
  have hp : 2 ^ t ≤ 64 := Nat.pow_le_pow_right (by decide) h (n := 2)
  have h0 : 0 < 2 ^ t := Nat.two_pow_pos t
  have e := pk_and x t (m := nI (2 ^ t - 1)) (pk_tn (by omega))
  rw [e]
  exact isN.of (by have := Nat.mod_lt x.toBitVec.toNat h0; omega)
theorem op_words {x y : Int32} (h : Rel M) (hK : ∀ M', Rel M' → K M') : zCWi E jL_words (D + 5) 2 [.ref 19, .int x, .int y, .ref 18] M (opR E jX12_words (D + 5) [.ref 0, .int x, .int y] K) := by
  obtain ⟨n, hn, h7⟩ := h.rem
  have q8 := h.ok.q
  have t6 := h.ok.t
  have hc0 : M.1 61 7 = nI (qN (M.1 1)) := h.now.1.2.2.1.trans q8.1
  have hct : M.1 61 6 = nI (tN (M.1 1)) := h.now.1.2.1.trans t6.1
  refine e_L_words (e_X11_words (s_X11_needQuestion hc0 (fun c => ?_) (fun c => Or.inl ⟨rfl, fun px => ?_⟩)))
  · obtain ⟨q, hq, rfl⟩ := c.get (by omega)
    refine e_X3_allThings ⟨0, by decide, rfl⟩ ?_
    rw [hct, all_nI t6.2]
    by_cases c2 : y &&& nI (2 ^ tN (M.1 1) - 1) = 0
    · refine ⟨fun z => absurd c2 z, fun _ => Or.inr ⟨rfl, fun px => ?_⟩⟩
      refine e_X12_words (fun M1 e1 => s_X12_noQuestion (n := qN (M.1 1)) (by rw [e1]; exact q8.1) (by omega) (fun _ => s_throws0 (z0B (s_X12_allThings ?_))) (fun z => absurd c z))
      rw [show M1.1 1 1 = nI (tN (M.1 1)) by rw [e1]; exact t6.1, all_nI t6.2]
      exact ⟨fun z => absurd c2 z, fun _ => t_X12_words_33 (s_throws1 (z1B (t_X12_words_40 (t_X12_words_58 (by rw [e1]; exact bad_end h hK (by decide))))))⟩
    · refine ⟨fun _ => s_remember h (fun M' hA hS hW => ⟨pk_in q _ (by omega), pk_in q _ (by omega), fun M15 e15 M4 e4 px => ?_⟩), fun z => absurd z c2⟩
      rw [nI_clamp (by omega)] at e15 e4
      rw [(hS 73 q (by decide) (by decide)).1, n0] at e4
      subst e15 e4
      refine e_X12_words (fun M1 e1 => s_X12_noQuestion (n := qN (M.1 1)) (by rw [e1, act_w (by decide) hW]; exact q8.1) (by omega) (fun _ => s_throws0 (z0B (s_X12_allThings ?_))) (fun z => absurd c z))
      have et : M1.1 1 1 = nI (tN (M.1 1)) := by rw [e1, act_w (by decide) hW]; exact t6.1
      rw [et, all_nI t6.2]
      refine ⟨fun _ => t_X12_words_33 (s_throws0 (z0A (s_X12_allThings ?_))), fun z => absurd z c2⟩
      rw [et, all_nI t6.2, show (12 : Int32) + nI q = nI (12 + q) from nI_add 12 q]
      refine s_X12_isNow (n := n) (by omega) hn ?_ (fun M2 f1 f2 f3 f4 => t_X12_words_58 ⟨?_, fun _ => ?_, hK _ ?_⟩)
      · subst e1; exact act_7 (by decide) hW h7
      · rw [f4, e1]; exact zup_s
      · subst e1
        rw [f3, act_w (by decide) hW]
        rw [zup_L, zupL_s, show M.1 73 q = M.1 1 (12 + q) from h.now.2.2.2.1 q hq]
      · subst e1
        exact act_fin h (by decide) (by decide) hA hS hW hn h7 f1 f2 (by omega) (ok_asks h.ok hq (and_all t6.2)) (fun M1 a b c => cr_asks h.ok hq h.now a b c)
  · exact e_X12_words (fun M1 e1 => s_X12_noQuestion (n := qN (M.1 1)) (by rw [e1]; exact q8.1) (by omega) (fun z => absurd z c) (fun _ => s_throws1 (z1A (t_X12_words_40 (t_X12_words_58 (by rw [e1]; exact bad_end h hK (by decide)))))))
end OPA
