/-! ===== wrong, shades ===== -/
section OPM
variable {E : zEv} {D : Nat} {px : String → zM → Prop} {M : zM} {K : zM → Prop}
theorem bad_us {M4 : zM} {r b : Int32} (h : Rel M) (hu : uC M4 M) (hK : ∀ M', Rel M' → K M') (hr : r ≠ 0) : (zup (usM M4) 0 0 r).1 0 0 = r ∧ (r = 0 → (zup (usM M4) 0 0 r).2 18 0 = b.toInt64) ∧ K (zup (usM M4) 0 0 r) := ⟨zup_s, fun z => absurd z hr, hK _ ((us_rel h hu).same (zpi_up rfl))⟩
theorem ok_us {M5 M2 : zM} {v b : Int32} (h : Rel M) (hu : uC (zupL M5 18 0 v.toInt64) M) (hK : ∀ M', Rel M' → K M') (h0 : M2.1 0 0 = 0) (hL : M2.2 = (zupL M5 18 0 v.toInt64).2) (hz : zpi M2 = zpi (usM (zupL M5 18 0 v.toInt64))) (hb : b = v) : M2.1 0 0 = 0 ∧ ((0 : Int32) = 0 → M2.2 18 0 = b.toInt64) ∧ K M2 := ⟨h0, fun _ => by rw [hL, zupL_s, hb], hK _ ((us_rel h hu).same hz)⟩
/-- the tape's size, and the bytes -/
theorem Rel.sz (h : Rel M) : ∃ n, n ≤ 400 ∧ M.1 20 1 = nI n ∧ M.1 0 9 = nI n := by
  obtain ⟨n, hn, t1, t2, t3⟩ := h.tape
  exact ⟨n, hn, t1, t2⟩
theorem Rel.cb (h : Rel M) {M1 : zM} (e : M1.1 21 = M.1 21) : ∀ j, j < 400 → M1.1 21 j = nI (byF M1 j) ∧ byF M1 j < 256 := fun j hj => by
  have : byF M1 j = byF M j := by unfold byF; rw [e]
  rw [this, e]
  exact ⟨(h.by hj).1, (h.by hj).2.2⟩
theorem us_by {M4 : zM} (h : Rel M) (hu : uC M4 M) : ∀ j, j < 400 → (usM M4).1 6 j = sb (byF M j) ∧ byF M j < 256 := fun j hj => by
  rw [us_o (by decide), (hu.2 6 j rfl (by omega)).1]
  exact ⟨(h.by hj).2.1, (h.by hj).2.2⟩
theorem us_w {M4 : zM} (hu : uC M4 M) : (usM M4).1 1 = M.1 1 := by rw [us_o (by decide)]; exact hu.w
theorem us_end {M4 : zM} {n : Nat} (hu : uC M4 M) (h9 : M.1 0 9 = nI n) : (usM M4).1 0 11 = nI n := by rw [us_11, (hu.2 0 9 rfl (by omega)).1]; exact h9
theorem by_21 {M1 : zM} (e : M1.1 21 = M.1 21) : byF M1 = byF M := by funext j; unfold byF; rw [e]
theorem now_20 {M1 : zM} (h : Rel M) (e1 : M1 = zup M 20 1 0) : cR M1 61 (M.1 1) := cR_same (fun o j h1 h2 => ⟨by rw [e1, zup_o (by omega)], by rw [e1]; rfl⟩) h.ok h.now
theorem op_shades {x : Int32} (h : Rel M) (hK : ∀ M', Rel M' → K M') : zCWi E jL_shades (D + 20) 2 [.ref 19, .int x, .ref 18] M (opR E jX12_shades (D + 20) [.ref 0, .int x] K) := by
  obtain ⟨n, hn, t1, t2⟩ := h.sz
  have w5 := h.ok.w
  have k4 := h.ok.k
  refine e_L_shades (e_X11_shades (e_X9_useUp (fun M1 e1 => ?_)))
  have k21 : M1.1 21 = M.1 21 := by rw [e1, zup_o (by decide)]
  have kw : M1.1 62 6 = nI (wN (M.1 1)) := by rw [e1, zup_o (by decide)]; exact h.nW
  have kk : M1.1 61 8 = nI (kN (M.1 1)) := by rw [e1, zup_o (by decide)]; exact h.nK
  have u1 : uC M1 M := uC.of (by rw [e1])
  rw [t1]
  refine s_X11_needWitness (n := wN (M.1 1)) kw (fun c => ?_) (fun c => Or.inl ⟨rfl, fun px => ?_⟩)
  · obtain ⟨w, hw, rfl⟩ := c.get (by omega)
    rw [kw, kk]
    refine s_X11_needRows (C := 99) (h.cb k21) hn (by omega) (by omega) (by decide) (fun hok => ?_) (fun hok => Or.inr ⟨rfl, fun px => ?_⟩)
    · refine s_X11_shadesLeft (now_20 h e1) h.ok (h.cb k21) hok hw (fun M4 e4 px => ?_)
      rw [n0] at e4
      subst e4
      rw [by_21 k21] at hok ⊢
      have u4 : uC (zupL M1 18 0 (nI (slF (M.1 1) (byF M) (n / 3) w 0)).toInt64) M := uC.of ((zpi_upL rfl).trans (by rw [e1]))
      refine e_X12_shades (s_X12_uses (s_X12_noWitness (n := wN (M.1 1)) (by rw [us_w u4]; exact w5.1) (by omega) (fun _ => s_throws0 (z0B (s_X12_isWritten (us_w u4) h.ok (byF M) (us_by h u4) hn (us_end u4 t2) ?_))) (fun z => absurd c z)))
      rw [bI_t hok]
      refine z1A (t_X12_shades_30 (s_throws0 (z0A (s_X12_shadesLeft (us_w u4) h.ok (byF M) (us_by h u4) (us_end u4 t2) hok hw (t_X12_shades_47 ?_)))))
      exact ok_us h u4 hK us_00 us_L rfl rfl
    · rw [by_21 k21] at hok
      refine e_X12_shades (s_X12_uses (s_X12_noWitness (n := wN (M.1 1)) (by rw [us_w u1]; exact w5.1) (by omega) (fun _ => s_throws0 (z0B (s_X12_isWritten (us_w u1) h.ok (byF M) (us_by h u1) hn (us_end u1 t2) ?_))) (fun z => absurd c z)))
      rw [bI_f hok]
      exact z0B (t_X12_shades_30 (s_throws1 (z1B (t_X12_shades_37 (t_X12_shades_47 (bad_us h u1 hK (by decide)))))))
  · exact e_X12_shades (s_X12_uses (s_X12_noWitness (n := wN (M.1 1)) (by rw [us_w u1]; exact w5.1) (by omega) (fun z => absurd z c) (fun _ => s_throws1 (z1A (t_X12_shades_37 (t_X12_shades_47 (bad_us h u1 hK (by decide))))))))
noncomputable def wrI (f : zRow) (b : Nat → Nat) (R : Nat) : Nat → Int32
  | 0 => nI (2 ^ kN f - 1)
  | l + 1 => @ite _ (¬ bc32 (wrI f b R l) ≤ bc32 (nI l) ∧ ∀ w, w < wN f → ¬ slF f b R w (nI l) = 0) (Classical.propDecidable _) (nI l) (wrI f b R l)
theorem sl_100 {f : zRow} {b : Nat → Nat} {R w : Nat} {l : Int32} : slF f b R w l ≤ 100 := cN_le _ 100
theorem op_wrong (h : Rel M) (hK : ∀ M', Rel M' → K M') : zCWi E jL_wrong (D + 20) 1 [.ref 19, .ref 18] M (opR E jX12_wrong (D + 20) [.ref 0] K) := by
  obtain ⟨n, hn, t1, t2⟩ := h.sz
  have w5 := h.ok.w
  have k4 := h.ok.k
  refine e_L_wrong (e_X11_wrong (e_X9_useUp (fun M1 e1 => ?_)))
  have k21 : M1.1 21 = M.1 21 := by rw [e1, zup_o (by decide)]
  have kw : M1.1 62 6 = nI (wN (M.1 1)) := by rw [e1, zup_o (by decide)]; exact h.nW
  have kk : M1.1 61 8 = nI (kN (M.1 1)) := by rw [e1, zup_o (by decide)]; exact h.nK
  have u1 : uC M1 M := uC.of (by rw [e1])
  have p4 : 2 ^ kN (M.1 1) ≤ 2 ^ 4 := Nat.pow_le_pow_right (by decide) k4.2
  have p16 : (2 : Nat) ^ 4 = 16 := by decide
  rw [t1, kw, kk]
  refine s_X11_needRows (C := 99) (h.cb k21) hn (by omega) (by omega) (by decide) (fun hok => ?_) (fun hok => ⟨rfl, fun px => ?_⟩)
  · rw [kk, all_nI (by omega)]
    have ref : opR E jX12_wrong (D + 20) [.ref 0] K 0 (zupL M1 18 0 (wrI (M.1 1) (byF M) (n / 3) (2 ^ kN (M.1 1))).toInt64) := fun px => by
      rw [by_21 k21] at hok
      have u4 : uC (zupL M1 18 0 (wrI (M.1 1) (byF M) (n / 3) (2 ^ kN (M.1 1))).toInt64) M := uC.of ((zpi_upL rfl).trans (by rw [e1]))
      have eK : (usM (zupL M1 18 0 (wrI (M.1 1) (byF M) (n / 3) (2 ^ kN (M.1 1))).toInt64)).1 1 (3 : Int32).toNatClampNeg = nI (kN (M.1 1)) := by rw [us_w u4]; exact k4.1
      have eW : (usM (zupL M1 18 0 (wrI (M.1 1) (byF M) (n / 3) (2 ^ kN (M.1 1))).toInt64)).1 1 (0 : Int32).toNatClampNeg = nI (wN (M.1 1)) := by rw [us_w u4]; exact w5.1
      refine e_X12_wrong (s_X12_uses (s_X12_isWritten (us_w u4) h.ok (byF M) (us_by h u4) hn (us_end u4 t2) ?_))
      rw [bI_t hok]
      refine z1A (t_X12_wrong_17 (s_throws0 (z0A (e_X12_women ?_))))
      rw [eK, all_nI (by omega)]
      generalize hMu : usM (zupL M1 18 0 (wrI (M.1 1) (byF M) (n / 3) (2 ^ kN (M.1 1))).toInt64) = Mu at *
      refine zup_loop (fun l => w_X12_wrong_37 E (D + 19) (fun b M2 => M2.1 0 0 = 0 ∧ ((0 : Int32) = 0 → M2.2 18 0 = b.toInt64) ∧ K M2) px (wrI (M.1 1) (byF M) (n / 3) l) (nI l) Mu) (2 ^ kN (M.1 1)) (fun l hl ih => ?_) ?_ 0 (Nat.zero_le _)
      · refine t_X12_wrong_37 (e_X12_women ?_)
        rw [eK, all_cnt (by omega)]
        refine pk_le (2 ^ kN (M.1 1)) l (fun z => absurd z (by omega)) (fun _ => e_J6_bitCount_0f7a4 (e_J6_bitCount_0f7a4 ?_))
        have h111 : ∀ v, v = wrI (M.1 1) (byF M) (n / 3) (l + 1) → w_X12_wrong_111 E (D + 19) (fun b M2 => M2.1 0 0 = 0 ∧ ((0 : Int32) = 0 → M2.2 18 0 = b.toInt64) ∧ K M2) px (nI l) v Mu := fun v hv => t_X12_wrong_111 (by
          rw [nI_1, hv]
          exact ih)
        have ewi : wrI (M.1 1) (byF M) (n / 3) (l + 1) = @ite _ (¬ bc32 (wrI (M.1 1) (byF M) (n / 3) l) ≤ bc32 (nI l) ∧ ∀ w, w < wN (M.1 1) → ¬ slF (M.1 1) (byF M) (n / 3) w (nI l) = 0) (Classical.propDecidable _) (nI l) (wrI (M.1 1) (byF M) (n / 3) l) := rfl
        have fin : ∀ s0, s0 = bI (¬ bc32 (wrI (M.1 1) (byF M) (n / 3) l) ≤ bc32 (nI l) ∧ ∀ w, w < wN (M.1 1) → ¬ slF (M.1 1) (byF M) (n / 3) w (nI l) = 0) → w_X12_wrong_102 E (D + 19) (fun b M2 => M2.1 0 0 = 0 ∧ ((0 : Int32) = 0 → M2.2 18 0 = b.toInt64) ∧ K M2) px (wrI (M.1 1) (byF M) (n / 3) l) (nI l) s0 Mu := fun s0 hs0 => t_X12_wrong_102 ⟨fun z => h111 _ (by rw [ewi, if_neg (bI_0.mp (hs0.symm.trans z))]), fun z => h111 _ (by rw [ewi, if_pos (bI_n0.mp (fun y => z (hs0.trans y)))])⟩
        have lp : ∀ s0, s0 = bI (¬ bc32 (wrI (M.1 1) (byF M) (n / 3) l) ≤ bc32 (nI l)) → w_X12_wrong_63 E (D + 19) (fun b M2 => M2.1 0 0 = 0 ∧ ((0 : Int32) = 0 → M2.2 18 0 = b.toInt64) ∧ K M2) px (wrI (M.1 1) (byF M) (n / 3) l) (nI l) s0 Mu := fun s0 hs0 => by
          refine t_X12_wrong_63 ?_
          have key := zup_loop (fun w => w_X12_wrong_67 E (D + 19) (fun b M2 => M2.1 0 0 = 0 ∧ ((0 : Int32) = 0 → M2.2 18 0 = b.toInt64) ∧ K M2) px (wrI (M.1 1) (byF M) (n / 3) l) (nI l) (bI (¬ bc32 (wrI (M.1 1) (byF M) (n / 3) l) ≤ bc32 (nI l) ∧ ∀ v, v < w → ¬ slF (M.1 1) (byF M) (n / 3) v (nI l) = 0)) (nI w) Mu) (wN (M.1 1)) (fun w hw ihw => ?_) ?_ 0 (by omega)
          · rw [show bI (¬ bc32 (wrI (M.1 1) (byF M) (n / 3) l) ≤ bc32 (nI l) ∧ ∀ v, v < 0 → ¬ slF (M.1 1) (byF M) (n / 3) v (nI l) = 0) = s0 by rw [hs0]; exact bI_c ⟨fun q => q.1, fun q => ⟨q, fun v hv => absurd hv (by omega)⟩⟩] at key
            exact key
          · refine t_X12_wrong_67 (e_X12_witnesses (pk_le (wN (M.1 1)) w (fun z => absurd z (by omega)) (fun _ => ⟨fun z => ?_, fun z => ?_⟩) eW))
            · refine fin _ ?_
              rw [z]
              exact (bI_f (fun q => bI_0.mp z ⟨q.1, fun v hv => q.2 v (by omega)⟩)).symm
            · have old := bI_n0.mp z
              have h95 : ∀ v, v = bI (¬ bc32 (wrI (M.1 1) (byF M) (n / 3) l) ≤ bc32 (nI l) ∧ ∀ v, v < w + 1 → ¬ slF (M.1 1) (byF M) (n / 3) v (nI l) = 0) → w_X12_wrong_95 E (D + 19) (fun b M2 => M2.1 0 0 = 0 ∧ ((0 : Int32) = 0 → M2.2 18 0 = b.toInt64) ∧ K M2) px (wrI (M.1 1) (byF M) (n / 3) l) (nI l) (nI w) v Mu := fun v hv => t_X12_wrong_95 (by
                rw [nI_1, hv]
                exact ihw)
              have sl := sl_100 (f := M.1 1) (b := byF M) (R := n / 3) (w := w) (l := nI l)
              refine s_X12_shadesLeft (us_w u4) h.ok (byF M) (us_by h u4) (us_end u4 t2) hok hw ?_ |> fun y => (by rw [hMu] at y; exact y)
              rw [hMu]
              refine pk_le (slF (M.1 1) (byF M) (n / 3) w (nI l)) 0 (fun z2 => h95 0 ?_) (fun z2 => h95 1 ?_)
              · exact (bI_f (fun q => q.2 w (by omega) (by omega))).symm
              · refine (bI_t ⟨old.1, fun v hv => ?_⟩).symm
                by_cases cv : v = w
                · rw [cv]; omega
                · exact old.2 v (by omega)
          · exact t_X12_wrong_67 (e_X12_witnesses (pk_le (wN (M.1 1)) (wN (M.1 1)) (fun _ => fin _ rfl) (fun z => absurd z (by omega)) eW))
        exact ⟨fun z => lp 0 (bI_f (fun q => q z)).symm, fun z => lp 1 (bI_t z).symm⟩
      · refine t_X12_wrong_37 (e_X12_women ?_)
        rw [eK, all_cnt (by omega)]
        refine pk_le (2 ^ kN (M.1 1)) (2 ^ kN (M.1 1)) (fun _ => ?_) (fun z => absurd z (by omega))
        rw [← hMu]
        exact ok_us h u4 hK us_00 us_L rfl rfl
    refine zup_loop (fun l => w_X11_wrong_45 E (D + 18) (fun r3 M1 => ∀ M4 : zM, M4 = zupL M1 18 (0 : Int32).toNatClampNeg r3.toInt64 → opR E jX12_wrong (D + 20) [.ref 0] K 0 M4) (fun X M9 => X = "java/lang/IllegalArgumentException" ∧ opR E jX12_wrong (D + 20) [.ref 0] K 1 M9) (nI (n / 3)) (wrI (M.1 1) (byF M) (n / 3) l) (nI l) M1) (2 ^ kN (M.1 1)) (fun l hl ih => ?_) ?_ 0 (Nat.zero_le _)
    · refine t_X11_wrong_45 ?_
      rw [kk, all_cnt (by omega)]
      refine pk_le (2 ^ kN (M.1 1)) l (fun z => absurd z (by omega)) (fun _ => e_J6_bitCount_0f7a4 (e_J6_bitCount_0f7a4 ?_))
      have h80 : ∀ v, v = wrI (M.1 1) (byF M) (n / 3) (l + 1) → w_X11_wrong_80 E (D + 18) (fun r3 M1 => ∀ M4 : zM, M4 = zupL M1 18 (0 : Int32).toNatClampNeg r3.toInt64 → opR E jX12_wrong (D + 20) [.ref 0] K 0 M4) (fun X M9 => X = "java/lang/IllegalArgumentException" ∧ opR E jX12_wrong (D + 20) [.ref 0] K 1 M9) (nI (n / 3)) v (nI l) M1 := fun v hv => t_X11_wrong_80 (by
        rw [nI_1, hv]
        exact ih)
      have ewi : wrI (M.1 1) (byF M) (n / 3) (l + 1) = @ite _ (¬ bc32 (wrI (M.1 1) (byF M) (n / 3) l) ≤ bc32 (nI l) ∧ ∀ w, w < wN (M.1 1) → ¬ slF (M.1 1) (byF M) (n / 3) w (nI l) = 0) (Classical.propDecidable _) (nI l) (wrI (M.1 1) (byF M) (n / 3) l) := rfl
      refine ⟨fun z => h80 _ (by rw [ewi, if_neg (fun q => q.1 z)]), fun z => e_X11_allMayBe ?_⟩
      refine zup_loop (fun w => (∀ v, v < w → ¬ slF (M.1 1) (byF M) (n / 3) v (nI l) = 0) → w_X11_allMayBe_2 E (D + 17) (fun r15 M13 => ((r15 = 0 → w_X11_wrong_80 E (D + 18) (fun r3 M1 => ∀ M4 : zM, M4 = zupL M1 18 (0 : Int32).toNatClampNeg r3.toInt64 → opR E jX12_wrong (D + 20) [.ref 0] K 0 M4) (fun X M9 => X = "java/lang/IllegalArgumentException" ∧ opR E jX12_wrong (D + 20) [.ref 0] K 1 M9) (nI (n / 3)) (wrI (M.1 1) (byF M) (n / 3) l) (nI l) M13) ∧ (¬ r15 = 0 → w_X11_wrong_80 E (D + 18) (fun r3 M1 => ∀ M4 : zM, M4 = zupL M1 18 (0 : Int32).toNatClampNeg r3.toInt64 → opR E jX12_wrong (D + 20) [.ref 0] K 0 M4) (fun X M9 => X = "java/lang/IllegalArgumentException" ∧ opR E jX12_wrong (D + 20) [.ref 0] K 1 M9) (nI (n / 3)) (nI l) (nI l) M13))) (fun X M9 => X = "java/lang/IllegalArgumentException" ∧ opR E jX12_wrong (D + 20) [.ref 0] K 1 M9) (nI (n / 3)) (nI l) (nI w) M1) (wN (M.1 1)) (fun w hw ihw hno => ?_) (fun hno => ?_) 0 (by omega) (fun v hv => absurd hv (by omega))
      · refine t_X11_allMayBe_2 (pk_le (wN (M.1 1)) w (fun q => absurd q (by omega)) (fun _ => s_X11_shadesLeft (now_20 h e1) h.ok (h.cb k21) hok hw ?_) kw)
        rw [by_21 k21]
        have sl := sl_100 (f := M.1 1) (b := byF M) (R := n / 3) (w := w) (l := nI l)
        refine pk_eq (slF (M.1 1) (byF M) (n / 3) w (nI l)) 0 (fun z2 => z0A (h80 _ ?_)) (fun z2 => ?_) |> fun y => ⟨y.2, y.1⟩
        · rw [ewi, if_neg (fun q => q.2 w hw z2)]
        · rw [nI_1]
          refine ihw (fun v hv => ?_)
          by_cases cv : v = w
          · rw [cv]; exact z2
          · exact hno v (by omega)
      · exact t_X11_allMayBe_2 (pk_le (wN (M.1 1)) (wN (M.1 1)) (fun _ => z1B (h80 _ (by rw [ewi, if_pos ⟨z, hno⟩]))) (fun q => absurd q (by omega)) kw)
    · refine t_X11_wrong_45 ?_
      rw [kk, all_cnt (by omega)]
      refine pk_le (2 ^ kN (M.1 1)) (2 ^ kN (M.1 1)) (fun _ M4 e4 => ?_) (fun z => absurd z (by omega))
      rw [e4]
      exact ref
  · rw [by_21 k21] at hok
    refine e_X12_wrong (s_X12_uses (s_X12_isWritten (us_w u1) h.ok (byF M) (us_by h u1) hn (us_end u1 t2) ?_))
    rw [bI_f hok]
    exact z0B (t_X12_wrong_17 (s_throws1 (z1B (bad_us h u1 hK (by decide)))))
end OPM
