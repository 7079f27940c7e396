/-! ===== a court's text read by the class ===== -/
def clI (b : Nat → Nat) (n : Nat) (M0 M : zM) (q : Nat) (f : zRow) : Prop := tkC M b n q ∧ zpi M = zpi M0 ∧ cR M 75 f ∧ okF f
theorem clI.off {b : Nat → Nat} {n q q' : Nat} {f : zRow} {M0 M M' : zM} (h : clI b n M0 M q f) (ho : off20 M' M) (hk : tkC M' b n q') : clI b n M0 M' q' f := ⟨hk, ho.pi.trans h.2.1, cR_same (fun o j h1 h2 => ⟨ho.1 o j (by omega), by rw [ho.2]⟩) h.2.2.2 h.2.2.1, h.2.2.2⟩
theorem zpi_75 {M' M : zM} (h : ∀ o j, o < 75 ∨ 89 ≤ o → M'.1 o j = M.1 o j) (hL : M'.2 = M.2) : zpi M' = zpi M := zpi_of (fun o j hi => by
  refine ⟨?_, by rw [hL]⟩
  by_cases c : 75 ≤ o ∧ o < 89
  · have : irr o j = true := by
      unfold irr
      split
      · omega
      · omega
      · have e1 : Nat.ble 75 o = true := Nat.ble_eq_true_of_le c.1
        have e2 : Nat.ble o 88 = true := Nat.ble_eq_true_of_le (by omega)
        rw [e1, e2]
        simp
    rw [this] at hi
    cases hi
  · exact h o j (by omega))
theorem tk_same {M' M : zM} {b : Nat → Nat} {n q : Nat} (h : tkC M b n q) (e : ∀ j, M'.1 20 j = M.1 20 j) : tkC M' b n q := ⟨by rw [e]; exact h.1, by rw [e]; exact h.2.1, by rw [e]; exact h.2.2.1, h.2.2.2⟩
section COURTC
variable {b : Nat → Nat} {n : Nat} {E : zEv} {D : Nat} {px : String → zM → Prop} {M M0 : zM} {q : Nat} {f : zRow}
theorem wit_1 {e : Nat} (h : nfF b n q 1 0 9 = .inl e) : pWit b n q f = .inl e := by unfold pWit; rw [h]
theorem wit_2 {r1 : Nat × Nat} {e : Nat} (h : nfF b n q 1 0 9 = .inr r1) (h2 : nfF b n r1.1 2 0 9 = .inl e) : pWit b n q f = .inl e := by unfold pWit; simp only [h, h2]
theorem wit_3 {r1 r2 : Nat × Nat} {e : Nat} (h : nfF b n q 1 0 9 = .inr r1) (h2 : nfF b n r1.1 2 0 9 = .inr r2) (h3 : toF b n r2.1 3 = .inl e) : pWit b n q f = .inl e := by unfold pWit; simp only [h, h2, h3]
theorem wit_4 {r1 r2 r3 : Nat × Nat} {e : Nat} (h : nfF b n q 1 0 9 = .inr r1) (h2 : nfF b n r1.1 2 0 9 = .inr r2) (h3 : toF b n r2.1 3 = .inr r3) (h4 : toF b n r3.1 4 = .inl e) : pWit b n q f = .inl e := by unfold pWit; simp only [h, h2, h3, h4]
theorem wit_r {r1 r2 r3 r4 : Nat × Nat} (h : nfF b n q 1 0 9 = .inr r1) (h2 : nfF b n r1.1 2 0 9 = .inr r2) (h3 : toF b n r2.1 3 = .inr r3) (h4 : toF b n r3.1 4 = .inr r4) : pWit b n q f = .inr (r4.1, nwF f r1.2 r2.2 r3.2 r4.2) := by unfold pWit; simp only [h, h2, h3, h4]
theorem thg_1 {e : Nat} (h : nfF b n q 6 1 9 = .inl e) : pThg b n q f = .inl e := by unfold pThg; rw [h]
theorem thg_2 {r1 : Nat × Nat} {e : Nat} (h : nfF b n q 6 1 9 = .inr r1) (h2 : pTou b n r1.1 (wN f) = .inl e) : pThg b n q f = .inl e := by unfold pThg; simp only [h, h2]
theorem thg_r {r1 r2 : Nat × Nat} (h : nfF b n q 6 1 9 = .inr r1) (h2 : pTou b n r1.1 (wN f) = .inr r2) : pThg b n q f = .inr ((pSo b n r2.1).1, ntF f r1.2 r2.2 (pSo b n r2.1).2) := by unfold pThg; simp only [h, h2]
theorem tou_n {m : Nat} (h : ¬ wdP b n q 7) : pTou b n q m = .inr (q, 0) := if_neg h
theorem tou_e {m : Nat} (h : wdP b n q 7) (h2 : letF b n (tb b n (wE b n q)) m = none) : pTou b n q m = .inl (tb b n (wE b n q)) := by unfold pTou; rw [if_pos h, h2]
theorem tou_r {m s : Nat} (h : wdP b n q 7) (h2 : letF b n (tb b n (wE b n q)) m = some s) : pTou b n q m = .inr (tb b n (wE b n (tb b n (wE b n q))), s) := by unfold pTou; rw [if_pos h, h2]
theorem ask_e (h : letF b n q (tN f) = none) : pAsk b n q f = .inl q := by unfold pAsk; rw [h]
theorem ask_r {s : Nat} (h : letF b n q (tN f) = some s) : pAsk b n q f = .inr (tb b n (wE b n q), nqF f s) := by unfold pAsk; rw [h]
theorem wom_e {e : Nat} (h : nfF b n q 11 1 20 = .inl e) : pWom b n q f = .inl e := by unfold pWom; rw [h]
theorem wom_r {r1 : Nat × Nat} (h : nfF b n q 11 1 20 = .inr r1) : pWom b n q f = .inr (r1.1, nkF f r1.2) := by unfold pWom; rw [h]
theorem num_e {i hi : Nat} (h : nuF b n q 0 hi = none) : pNum b n i hi q f = .inl q := by unfold pNum; rw [h]
theorem num_r {i hi v : Nat} (h : nuF b n q 0 hi = some v) : pNum b n i hi q f = .inr (tb b n (dE b n q), upd f i (nI v)) := by unfold pNum; rw [h]
/-- heat, false, talk, moment -/
theorem s_X4_num {P0 P1 : zM → Prop} {w slot i hi : Nat} {y : Int32} (ht : tcC M0 b n) (hI : clI b n M0 M q f) (hw : w < zLitN) (hl : 0 < zLitL.getD w 0) (hy : y = nI hi) (hh : hi < 2 ^ 30) (yw : wdP b n q w) (cr : ∀ (M1 : zM) (v : Nat), v ≤ hi → cR M1 75 f → cR (zup M1 75 slot (nI v)) 75 (upd f i (nI v)) ∧ okF (upd f i (nI v))) (h0 : ∀ e, pNum b n i hi (tb b n (wE b n q)) f = .inl e → ∀ M', M'.1 20 3 = nI e → zpi M' = zpi M0 → P0 M') (h1 : ∀ r, pNum b n i hi (tb b n (wE b n q)) f = .inr r → ∀ M', clI b n M0 M' r.1 r.2 → P1 M') : zCi E jX9_takeNumberAfter (D + 6) 0 [.ref 20, .ref (271 + w), .int 0, .int y] M (fun r M49 => ∀ M52 : zM, M52 = zup M49 75 slot r → ((M52.1 75 slot = -1 → P0 M52) ∧ (¬ M52.1 75 slot = -1 → P1 M52))) px := by
  refine s_X9_takeNumberAfter (lo := 0) (hi := hi) rfl hy ⟨by decide, hh⟩ hw hl (ht.pi hI.2.1) hI.1 (fun r hr M' t' o' M52 e52 => ?_) (fun e he M' t' o' M52 e52 => ?_)
  · have hI' := hI.off o' t'
    have v52 : M52.1 75 slot = nI r.2 := by rw [e52, zup_s]
    cases hv : nuF b n (tb b n (wE b n q)) 0 hi with
    | none => rw [nf_none yw hv] at hr; cases hr
    | some v =>
      rw [nf_some yw hv] at hr
      have er := Sum.inr.inj hr
      subst er
      have g := nuF_some hv
      refine ⟨fun z => absurd (v52.symm.trans z) (nI_m1 (by show v < 2 ^ 31; omega)), fun _ => h1 _ (num_r hv) M52 ?_⟩
      obtain ⟨c1, c2⟩ := cr M' v g.2.2 hI'.2.2.1
      refine ⟨tk_same hI'.1 (fun j => by rw [e52, zup_o (by decide)]), ?_, by rw [e52]; exact c1, c2⟩
      exact (zpi_75 (M' := M52) (M := M') (fun o j h => by rw [e52, zup_o (by omega)]) (by rw [e52]; rfl)).trans hI'.2.1
  · have hI' := hI.off o' t'
    have v52 : M52.1 75 slot = -1 := by rw [e52, zup_s]
    cases hv : nuF b n (tb b n (wE b n q)) 0 hi with
    | some v => rw [nf_some yw hv] at he; cases he
    | none =>
      rw [nf_none yw hv] at he
      have er := Sum.inl.inj he
      subst er
      refine ⟨fun _ => h0 _ (num_e hv) M52 (by rw [e52, zup_o (by decide)]; exact t'.1) ?_, fun z => absurd v52 z⟩
      exact (zpi_75 (M' := M52) (M := M') (fun o j h => by rw [e52, zup_o (by omega)]) (by rw [e52]; rfl)).trans hI'.2.1
theorem cr_up {g : zRow} {slot : Nat} {M1 : zM} {v : Int32} (h : (∀ o j, 75 ≤ o → o < 75 + 14 → ¬ (o = 75 ∧ j = slot) → (zup M1 75 slot v).1 o j = M1.1 o j) → (∀ j, (zup M1 75 slot v).2 (75 + 9) j = M1.2 (75 + 9) j) → (zup M1 75 slot v).1 75 slot = v → cR (zup M1 75 slot v) 75 g) : cR (zup M1 75 slot v) 75 g := h (fun o j _ _ h3 => zup_n (by omega)) (fun j => rfl) zup_s
theorem s_X4_readNumber {post : Int32 → zM → Prop} (ht : tcC M0 b n) (hI : clI b n M0 M q f) (y0 : ¬ wdP b n q 0) (y1 : ¬ wdP b n q 5) (y2 : ¬ wdP b n q 9) (y3 : ¬ wdP b n q 10) (h0 : ∀ e, pCl b n q f = .inl e → ∀ M', M'.1 20 3 = nI e → zpi M' = zpi M0 → post 0 M') (h1 : ∀ r, pCl b n q f = .inr r → ∀ M', clI b n M0 M' r.1 r.2 → post 1 M') : zCi E jX4_readNumber (D + 7) 0 [.ref 20, .ref 75] M post px := by
  have hk := hI.2.2.2
  have htM := ht.pi hI.2.1
  refine e_X4_readNumber (s_X9_isWord (w := 12) (by decide) (by decide) htM hI.1 (fun y4 => z1B ?_) (fun y4 => z0A (s_X9_isWord (w := 13) (by decide) (by decide) htM hI.1 (fun y5 => z1B ?_) (fun y5 => z0A (s_X9_isWord (w := 14) (by decide) (by decide) htM hI.1 (fun y6 => z1B ?_) (fun y6 => z0A (s_X9_isWord (w := 15) (by decide) (by decide) htM hI.1 (fun y7 => z1B ?_) (fun y7 => z0A ?_))))))))
  · have e0 : pCl b n q f = pNum b n 7 9 (tb b n (wE b n q)) f := by unfold pCl; rw [if_neg y0, if_neg y1, if_neg y2, if_neg y3, if_pos y4]
    exact s_X4_num (slot := 11) (i := 7) (hi := 9) ht hI (by decide) (by decide) rfl (by decide) y4 (fun M1 v hv c => ⟨cr_up (cr_heat hk c), ok_heat hk (isN.of hv)⟩) (fun e he M' a1 a2 => t_X4_readNumber_35 ⟨Or.inl rfl, h0 e (e0.trans he) M' a1 a2⟩) (fun r hr M' a1 => t_X4_readNumber_35 ⟨Or.inr rfl, h1 r (e0.trans hr) M' a1⟩)
  · have e0 : pCl b n q f = pNum b n 8 100 (tb b n (wE b n q)) f := by unfold pCl; rw [if_neg y0, if_neg y1, if_neg y2, if_neg y3, if_neg y4, if_pos y5]
    exact s_X4_num (slot := 12) (i := 8) (hi := 100) ht hI (by decide) (by decide) rfl (by decide) y5 (fun M1 v hv c => ⟨cr_up (cr_lies hk c), ok_lies hk (isN.of hv)⟩) (fun e he M' a1 a2 => t_X4_readNumber_71 ⟨Or.inl rfl, h0 e (e0.trans he) M' a1 a2⟩) (fun r hr M' a1 => t_X4_readNumber_71 ⟨Or.inr rfl, h1 r (e0.trans hr) M' a1⟩)
  · have e0 : pCl b n q f = pNum b n 9 100 (tb b n (wE b n q)) f := by unfold pCl; rw [if_neg y0, if_neg y1, if_neg y2, if_neg y3, if_neg y4, if_neg y5, if_pos y6]
    exact s_X4_num (slot := 13) (i := 9) (hi := 100) ht hI (by decide) (by decide) rfl (by decide) y6 (fun M1 v hv c => ⟨cr_up (cr_talk hk c), ok_talk hk (isN.of hv)⟩) (fun e he M' a1 a2 => t_X4_readNumber_107 ⟨Or.inl rfl, h0 e (e0.trans he) M' a1 a2⟩) (fun r hr M' a1 => t_X4_readNumber_107 ⟨Or.inr rfl, h1 r (e0.trans hr) M' a1⟩)
  · have e0 : pCl b n q f = pNum b n 6 999 (tb b n (wE b n q)) f := by unfold pCl; rw [if_neg y0, if_neg y1, if_neg y2, if_neg y3, if_neg y4, if_neg y5, if_neg y6, if_pos y7]
    exact s_X4_num (slot := 14) (i := 6) (hi := 999) ht hI (by decide) (by decide) rfl (by decide) y7 (fun M1 v hv c => ⟨cr_up (cr_moment hk c), ok_moment hk (isN.of (by omega))⟩) (fun e he M' a1 a2 => t_X4_readNumber_144 ⟨Or.inl rfl, h0 e (e0.trans he) M' a1 a2⟩) (fun r hr M' a1 => t_X4_readNumber_144 ⟨Or.inr rfl, h1 r (e0.trans hr) M' a1⟩)
  · have e0 : pCl b n q f = .inl q := by unfold pCl; rw [if_neg y0, if_neg y1, if_neg y2, if_neg y3, if_neg y4, if_neg y5, if_neg y6, if_neg y7]
    exact h0 q e0 M hI.1.1 hI.2.1
theorem s_X4_readWitness {post : Int32 → zM → Prop} (ht : tcC M0 b n) (hI : clI b n M0 M q f) (hw5 : wN f < 5) (y : wdP b n q 0) (h0 : ∀ e, pWit b n (tb b n (wE b n q)) f = .inl e → ∀ M', M'.1 20 3 = nI e → zpi M' = zpi M0 → post 0 M') (h1 : ∀ r, pWit b n (tb b n (wE b n q)) f = .inr r → ∀ M', clI b n M0 M' r.1 r.2 → post 1 M') : zCi E jX4_readWitness (D + 7) 0 [.ref 20, .ref 76] M post px := by
  have hk := hI.2.2.2
  have w5 := hk.w
  have t6 := hk.t
  have q8 := hk.q
  have k4 := hk.k
  obtain ⟨nq, tq⟩ := wd_nx hI.1.2.2.2 (by decide) y
  refine e_X4_readWitness (s_X9_word (w := 0) (by decide) (ht.pi hI.2.1) hI.1 y (fun M1 t1 o1 => ?_))
  have I1 := hI.off o1 t1
  refine s_X9_takeNumberAfter (w := 1) (lo := 0) (hi := 9) rfl rfl (by decide) (by decide) (by decide) (ht.pi I1.2.1) I1.1 (fun r1 hr1 M3 t3 o3 => ?_) (fun e he M3 t3 o3 => ⟨fun z => absurd rfl z, fun _ => t_X4_readWitness_32 ⟨fun z => absurd rfl z, fun _ => h0 e (wit_1 he) M3 t3.1 (I1.off o3 t3).2.1⟩⟩)
  have I3 := I1.off o3 t3
  obtain ⟨a1, a2, a3, a4⟩ := (nf_p nq (by decide)).2 r1 hr1
  refine ⟨fun _ => ?_, fun z => absurd z (nI_m1 (by omega))⟩
  refine s_X9_takeNumberAfter (w := 2) (lo := 0) (hi := 9) rfl rfl (by decide) (by decide) (by decide) (ht.pi I3.2.1) I3.1 (fun r2 hr2 M9 t9 o9 => ?_) (fun e he M9 t9 o9 => t_X4_readWitness_32 ⟨fun z => absurd rfl z, fun _ => h0 e (wit_2 hr1 he) M9 t9.1 (I3.off o9 t9).2.1⟩)
  have I9 := I3.off o9 t9
  obtain ⟨b1, b2, b3, b4⟩ := (nf_p a1 (by decide)).2 r2 hr2
  -- the last: the row grows
  have fin : ∀ (M6 : zM) (r3 r4 : Nat × Nat), toF b n r2.1 3 = .inr r3 → toF b n r3.1 4 = .inr r4 → clI b n M0 M6 r4.1 f → w_X4_readWitness_94 E (D + 6) post px (nI r1.2) (nI r2.2) (nI r3.2) (nI r4.2) M6 := by
    intro Mz r3 r4 hr3 hr4 Iz
    obtain ⟨c1, c2, c3⟩ := (to_p b1 (by decide)).2 r3 hr3
    obtain ⟨d1, d2, d3⟩ := (to_p c1 (by decide)).2 r4 hr4
    have hw : Mz.1 76 6 = nI (wN f) := Iz.2.2.1.1.1.trans w5.1
    refine t_X4_readWitness_94 ⟨fun _ => ?_, fun z => absurd z (nI_m1 (by omega))⟩
    rw [hw, nI_clamp (by omega)]
    have iv : vp_in (nI (wN f)) 5 := pk_in (wN f) _ hw5
    refine ⟨iv, fun M6 e6 => ⟨iv, fun M10 e10 => ⟨iv, fun M14 e14 => ⟨iv, fun M18 e18 => ⟨iv, fun M22 e22 => ⟨iv, fun M26 e26 M28 e28 => h1 _ (wit_r hr1 hr2 hr3 hr4) M28 ?_⟩⟩⟩⟩⟩⟩
    have v26 : M26.1 76 6 = nI (wN f) := by rw [e26, zup_o (by decide), e22, zup_o (by decide), e18, zup_o (by decide), e14, zup_o (by decide), e10, zup_o (by decide), e6, zup_o (by decide)]; exact hw
    rw [v26, nI_1] at e28
    have all : ∀ o j, ¬ (o = 76 ∧ j = 6) → ¬ (77 ≤ o ∧ o < 83 ∧ j = wN f) → M28.1 o j = Mz.1 o j := fun o j g1 g2 => by rw [e28, zup_n (by omega), e26, zup_n (by omega), e22, zup_n (by omega), e18, zup_n (by omega), e14, zup_n (by omega), e10, zup_n (by omega), e6, zup_n (by omega)]
    have L28 : M28.2 = Mz.2 := by rw [e28, zup_L, e26, zup_L, e22, zup_L, e18, zup_L, e14, zup_L, e10, zup_L, e6, zup_L]
    have hc := Iz.2.2.1
    refine ⟨tk_same Iz.1 (fun j => all 20 j (by omega) (by omega)), (zpi_75 (M := Mz) (fun o j h => all o j (by omega) (by omega)) L28).trans Iz.2.1, ?_, (ok_nw hk hw5 a4 b4 c3 d3).1⟩
    show cR M28 75 (nwF f r1.2 r2.2 r3.2 r4.2)
    refine cR_add (W := wN f + 1) (T := tN f) (Q := qN f) (K := kN f) hk hc (by omega) t6.2 q8.2 k4.2 nw_0 ?_ ?_ ?_ (fun j h1 h2 => nw_o (by omega) (by omega) (by omega)) (fun i hi => ⟨nw_o (by omega) (by omega) (by omega), fun j hj => nw_o (by omega) (by omega) (by omega)⟩) (fun t ht j hj => nw_o (by omega) (by omega) (by omega)) (fun q hq => nw_o (by omega) (by omega) (by omega)) (fun k hk => nw_o (by omega) (by omega) (by omega)) (fun j h1 h2 => nw_o (by omega) (by omega) (by omega)) (by rw [e28, zup_s]) ?_ ?_ ?_ ?_ (fun j h1 h2 h3 => all 75 j (by omega) (by omega)) (fun i hi o h1 h2 => all (75 + o) i (by omega) (by omega)) (fun t ht => ⟨all _ t (by omega) (by omega), all _ t (by omega) (by omega)⟩) (fun t ht => all _ t (by omega) (by omega)) (fun t ht => all _ t (by omega) (by omega)) ⟨all _ 1 (by omega) (by omega), all _ 2 (by omega) (by omega)⟩ (fun j => by rw [L28]) (fun i h1 h2 => ?_) (fun t h1 h2 => absurd h1 (by omega)) (fun t h1 h2 => absurd h1 (by omega)) (fun t h1 h2 => absurd h1 (by omega))
    · rw [nw_o (by omega) (by omega) (by omega)]; exact t6.1
    · rw [nw_o (by omega) (by omega) (by omega)]; exact q8.1
    · rw [nw_o (by omega) (by omega) (by omega)]; exact k4.1
    · rw [all 75 6 (by omega) (by omega)]; exact hc.1.2.1.trans t6.1
    · rw [all 75 7 (by omega) (by omega)]; exact hc.1.2.2.1.trans q8.1
    · rw [all 75 8 (by omega) (by omega)]; exact hc.1.2.2.2.1.trans k4.1
    · rw [all 75 10 (by omega) (by omega), hc.1.2.2.2.2.2.1]
      exact (so_eqv (by show tn (nwF f r1.2 r2.2 r3.2 r4.2 1) = tn (f 1); rw [nw_o (by omega) (by omega) (by omega)]) (fun t ht => nw_o (by omega) (by omega) (by omega))).symm
    · have ei : i = wN f := by omega
      subst ei
      unfold cR2
      rw [nw_z hw5, nw_1 hw5, nw_2 hw5, nw_3 hw5, nw_4 hw5, nw_s hw5, e28, zup_o (by decide), zup_o (by decide), zup_o (by decide), zup_o (by decide), zup_o (by decide), zup_o (by decide), e26, zup_s, zup_o (by decide), zup_o (by decide), zup_o (by decide), zup_o (by decide), zup_o (by decide), e22, zup_s, zup_o (by decide), zup_o (by decide), zup_o (by decide), zup_o (by decide), e18, zup_s, zup_o (by decide), zup_o (by decide), zup_o (by decide), e14, zup_s, zup_o (by decide), zup_o (by decide), e10, zup_s, zup_o (by decide), e6, zup_s]
      exact ⟨rfl, rfl, rfl, rfl, rfl, rfl⟩
  refine t_X4_readWitness_32 ⟨fun _ => ?_, fun z => absurd z (nI_m1 (by omega))⟩
  -- shade
  have sh : ∀ (M4 : zM) (r3 : Nat × Nat), toF b n r2.1 3 = .inr r3 → clI b n M0 M4 r3.1 f → w_X4_readWitness_62 E (D + 6) post px (nI r1.2) (nI r2.2) (nI r3.2) M4 := by
    intro M4 r3 hr3 I4
    obtain ⟨c1, c2, c3⟩ := (to_p b1 (by decide)).2 r3 hr3
    refine t_X4_readWitness_62 ⟨fun _ => ?_, fun z => absurd z (nI_m1 (by omega))⟩
    refine s_X9_isWord (w := 4) (by decide) (by decide) (ht.pi I4.2.1) I4.1 (fun y4 => z1B ?_) (fun y4 => z0A (fin M4 r3 (r3.1, 0) hr3 (if_neg y4) I4))
    have e0 : toF b n r3.1 4 = nfF b n r3.1 4 0 99 := if_pos y4
    exact s_X9_takeNumberAfter (w := 4) (lo := 0) (hi := 99) rfl rfl (by decide) (by decide) (by decide) (ht.pi I4.2.1) I4.1 (fun r4 hr4 M10 t10 o10 => fin M10 r3 r4 hr3 (e0.trans hr4) (I4.off o10 t10)) (fun e he M10 t10 o10 => t_X4_readWitness_94 ⟨fun z => absurd rfl z, fun _ => h0 e (wit_4 hr1 hr2 hr3 (e0.trans he)) M10 t10.1 (I4.off o10 t10).2.1⟩)
  refine s_X9_isWord (w := 3) (by decide) (by decide) (ht.pi I9.2.1) I9.1 (fun y3 => z1B ?_) (fun y3 => z0A (sh M9 (r2.1, 0) (if_neg y3) I9))
  have e0 : toF b n r2.1 3 = nfF b n r2.1 3 0 99 := if_pos y3
  exact s_X9_takeNumberAfter (w := 3) (lo := 0) (hi := 99) rfl rfl (by decide) (by decide) (by decide) (ht.pi I9.2.1) I9.1 (fun r3 hr3 M10 t10 o10 => sh M10 r3 (e0.trans hr3) (I9.off o10 t10)) (fun e he M10 t10 o10 => t_X4_readWitness_62 ⟨fun z => absurd rfl z, fun _ => h0 e (wit_3 hr1 hr2 (e0.trans he)) M10 t10.1 (I9.off o10 t10).2.1⟩)
theorem s_X4_readThing {post : Int32 → zM → Prop} (ht : tcC M0 b n) (hI : clI b n M0 M q f) (ht6 : tN f < 6) (y : wdP b n q 5) (h0 : ∀ e, pThg b n (tb b n (wE b n q)) f = .inl e → ∀ M', M'.1 20 3 = nI e → zpi M' = zpi M0 → post 0 M') (h1 : ∀ r, pThg b n (tb b n (wE b n q)) f = .inr r → ∀ M', clI b n M0 M' r.1 r.2 → post 1 M') : zCi E jX4_readThing (D + 7) 0 [.ref 20, .ref 75] M post px := by
  have hk := hI.2.2.2
  have w5 := hk.w
  have t6 := hk.t
  have q8 := hk.q
  have k4 := hk.k
  obtain ⟨nq, tq⟩ := wd_nx hI.1.2.2.2 (by decide) y
  refine e_X4_readThing (s_X9_word (w := 5) (by decide) (ht.pi hI.2.1) hI.1 y (fun M1 t1 o1 => ?_))
  have I1 := hI.off o1 t1
  refine s_X9_takeNumberAfter (w := 6) (lo := 1) (hi := 9) rfl rfl (by decide) (by decide) (by decide) (ht.pi I1.2.1) I1.1 (fun r1 hr1 M3 t3 o3 => ?_) (fun e he M3 t3 o3 => ⟨fun z => absurd rfl z, fun _ => h0 e (thg_1 he) M3 t3.1 (I1.off o3 t3).2.1⟩)
  have I3 := I1.off o3 t3
  obtain ⟨a1, a2, a3, a4⟩ := (nf_p nq (by decide)).2 r1 hr1
  refine ⟨fun _ => ?_, fun z => absurd z (nI_m1 (by omega))⟩
  have fin : ∀ (Mz : zM) (r2 : Nat × Nat) (x : Int32), pTou b n r1.1 (wN f) = .inr r2 → x = nI (pSo b n r2.1).2 → clI b n M0 Mz (pSo b n r2.1).1 f → w_X4_readThing_73 E (D + 6) post px (nI r1.2) (nI r2.2) (nI (tN f)) x Mz := by
    intro Mz r2 x hr2 hx Iz
    obtain ⟨c1, c2, c3⟩ := (tou_p a1).2 r2 hr2
    have s1 := (so_p c1).2.2
    have p5 : 2 ^ wN f ≤ 2 ^ 5 := Nat.pow_le_pow_right (by decide) w5.2
    have hc := Iz.2.2.1
    have iv : vp_in (nI (tN f)) 6 := pk_in (tN f) _ ht6
    refine t_X4_readThing_73 ?_
    rw [nI_clamp (by omega), hx]
    refine ⟨iv, fun M3 e3 => ⟨iv, fun M7 e7 M9 e9 M11 e11 => h1 _ (thg_r hr1 hr2) M11 ?_⟩⟩
    have v7 : M7.1 75 10 = soF f := by rw [e7, zup_o (by decide), e3, zup_o (by decide)]; exact hc.1.2.2.2.2.2.1
    rw [v7] at e9
    have v9 : M9.1 75 6 = nI (tN f) := by rw [e9, zup_n (Or.inr (by decide)), e7, zup_o (by decide), e3, zup_o (by decide)]; exact hc.1.2.1.trans t6.1
    rw [v9, nI_1] at e11
    have all : ∀ o j, ¬ (o = 75 ∧ j = 6) → ¬ (o = 75 ∧ j = 10) → ¬ (85 ≤ o ∧ o < 87 ∧ j = tN f) → M11.1 o j = Mz.1 o j := fun o j g1 g2 g3 => by rw [e11, zup_n (by omega), e9, zup_n (by omega), e7, zup_n (by omega), e3, zup_n (by omega)]
    have L11 : M11.2 = Mz.2 := by rw [e11, zup_L, e9, zup_L, e7, zup_L, e3, zup_L]
    refine ⟨tk_same Iz.1 (fun j => all 20 j (by omega) (by omega) (by omega)), (zpi_75 (M := Mz) (fun o j h => all o j (by omega) (by omega) (by omega)) L11).trans Iz.2.1, ?_, (ok_nt hk ht6 ⟨a3, a4⟩ (by omega) s1).1⟩
    show cR M11 75 (ntF f r1.2 r2.2 (pSo b n r2.1).2)
    refine cR_add (W := wN f) (T := tN f + 1) (Q := qN f) (K := kN f) hk hc w5.2 (by omega) q8.2 k4.2 ?_ nt_1 ?_ ?_ (fun j h1 h2 => nt_o (by omega) (by omega)) (fun i hi => ⟨nt_o (by omega) (by omega), fun j hj => nt_o (by omega) (by omega)⟩) (fun t ht j hj => nt_o (by omega) (by omega)) (fun q hq => nt_o (by omega) (by omega)) (fun k hk => nt_o (by omega) (by omega)) (fun j h1 h2 => nt_o (by omega) (by omega)) ?_ (by rw [e11, zup_s]) ?_ ?_ ?_ (fun j h1 h2 h3 => all 75 j (by omega) (by omega) (by omega)) (fun i hi o h1 h2 => all (75 + o) i (by omega) (by omega) (by omega)) (fun t ht => ⟨all _ t (by omega) (by omega) (by omega), all _ t (by omega) (by omega) (by omega)⟩) (fun t ht => all _ t (by omega) (by omega) (by omega)) (fun t ht => all _ t (by omega) (by omega) (by omega)) ⟨all _ 1 (by omega) (by omega) (by omega), all _ 2 (by omega) (by omega) (by omega)⟩ (fun j => by rw [L11]) (fun t h1 h2 => absurd h1 (by omega)) (fun i h1 h2 => ?_) (fun t h1 h2 => absurd h1 (by omega)) (fun t h1 h2 => absurd h1 (by omega))
    · rw [nt_o (by omega) (by omega)]; exact w5.1
    · rw [nt_o (by omega) (by omega)]; exact q8.1
    · rw [nt_o (by omega) (by omega)]; exact k4.1
    · rw [all (75 + 1) 6 (by omega) (by omega) (by omega)]; exact hc.1.1.trans w5.1
    · rw [all 75 7 (by omega) (by omega) (by omega)]; exact hc.1.2.2.1.trans q8.1
    · rw [all 75 8 (by omega) (by omega) (by omega)]; exact hc.1.2.2.2.1.trans k4.1
    · rw [e11, zup_n (Or.inr (by decide)), e9, zup_s]
      exact (so_nt ht6).symm
    · have ei : i = tN f := by omega
      subst ei
      rw [nt_a, nt_b, e11, zup_o (by decide), zup_o (by decide), e9, zup_o (by decide), zup_o (by decide), e7, zup_s, zup_o (by decide), e3, zup_s]
      exact ⟨rfl, rfl⟩
  have so : ∀ (Mz : zM) (r2 : Nat × Nat), pTou b n r1.1 (wN f) = .inr r2 → clI b n M0 Mz r2.1 f → w_X4_readThing_45 E (D + 6) post px (nI r1.2) (nI r2.2) Mz := by
    intro Mz r2 hr2 Iz
    obtain ⟨c1, c2, c3⟩ := (tou_p a1).2 r2 hr2
    have p5 : 2 ^ wN f ≤ 2 ^ 5 := Nat.pow_le_pow_right (by decide) w5.2
    have h6 : Mz.1 75 6 = nI (tN f) := Iz.2.2.1.1.2.1.trans t6.1
    refine t_X4_readThing_45 ⟨fun _ => ?_, fun z => absurd z (nI_m1 (by omega))⟩
    rw [h6]
    refine s_X9_takeWord (w := 8) (by decide) (by decide) (ht.pi Iz.2.1) Iz.1 (fun y8 M4 t4 o4 => z1B ?_) (fun y8 => z0A ?_)
    · have e0 : pSo b n r2.1 = (tb b n (wE b n r2.1), 1) := if_pos y8
      exact fin M4 r2 1 hr2 (by rw [e0]; rfl) (by rw [e0]; exact Iz.off o4 t4)
    · have e0 : pSo b n r2.1 = (r2.1, 0) := if_neg y8
      exact fin Mz r2 0 hr2 (by rw [e0]; rfl) (by rw [e0]; exact Iz)
  refine s_X9_takeWord (w := 7) (by decide) (by decide) (ht.pi I3.2.1) I3.1 (fun y7 M9 t9 o9 => z1B ?_) (fun y7 => z0A (so M3 (r1.1, 0) (tou_n y7) I3))
  have I9 := I3.off o9 t9
  refine s_X9_takeLetters (m := wN f) (I9.2.2.1.1.1.trans w5.1) (by omega) (ht.pi I9.2.1) I9.1 (fun s hs M15 t15 o15 => so M15 _ (tou_r y7 hs) (I9.off o15 t15)) (fun hs => t_X4_readThing_45 ⟨fun z => absurd rfl z, fun _ => h0 _ (thg_2 hr1 (tou_e y7 hs)) M9 I9.1.1 I9.2.1⟩)
theorem s_X4_readQuestion {post : Int32 → zM → Prop} (ht : tcC M0 b n) (hI : clI b n M0 M q f) (hq8 : qN f < 8) (y : wdP b n q 9) (h0 : ∀ e, pAsk b n (tb b n (wE b n q)) f = .inl e → ∀ M', M'.1 20 3 = nI e → zpi M' = zpi M0 → post 0 M') (h1 : ∀ r, pAsk b n (tb b n (wE b n q)) f = .inr r → ∀ M', clI b n M0 M' r.1 r.2 → post 1 M') : zCi E jX4_readQuestion (D + 7) 0 [.ref 20, .ref 75] M post px := by
  have hk := hI.2.2.2
  have w5 := hk.w
  have t6 := hk.t
  have q8 := hk.q
  have k4 := hk.k
  refine e_X4_readQuestion (s_X9_word (w := 9) (by decide) (ht.pi hI.2.1) hI.1 y (fun M1 t1 o1 => ?_))
  have I1 := hI.off o1 t1
  refine s_X9_takeLetters (m := tN f) (I1.2.2.1.1.2.1.trans t6.1) t6.2 (ht.pi I1.2.1) I1.1 (fun s hs M3 t3 o3 => ?_) (fun hs => ⟨fun z => absurd rfl z, fun _ => h0 _ (ask_e hs) M1 I1.1.1 I1.2.1⟩)
  have g := letF_some hs
  have p6 : 2 ^ tN f ≤ 2 ^ 6 := Nat.pow_le_pow_right (by decide) t6.2
  have Iz := I1.off o3 t3
  have hc := Iz.2.2.1
  have h7 : M3.1 75 7 = nI (qN f) := hc.1.2.2.1.trans q8.1
  refine ⟨fun _ => ?_, fun z => absurd z (nI_m1 (by omega))⟩
  rw [h7, nI_clamp (by omega)]
  refine ⟨pk_in (qN f) _ hq8, fun M11 e11 M13 e13 => h1 _ (ask_r hs) M13 ?_⟩
  have v11 : M11.1 75 7 = nI (qN f) := by rw [e11, zup_o (by decide)]; exact h7
  rw [v11, nI_1] at e13
  have all : ∀ o j, ¬ (o = 75 ∧ j = 7) → ¬ (o = 87 ∧ j = qN f) → M13.1 o j = M3.1 o j := fun o j g1 g2 => by rw [e13, zup_n (by omega), e11, zup_n (by omega)]
  have L13 : M13.2 = M3.2 := by rw [e13, zup_L, e11, zup_L]
  refine ⟨tk_same Iz.1 (fun j => all 20 j (by omega) (by omega)), (zpi_75 (M := M3) (fun o j h => all o j (by omega) (by omega)) L13).trans Iz.2.1, ?_, (ok_nq hk hq8 g.2.2).1⟩
  show cR M13 75 (nqF f s)
  refine cR_add (W := wN f) (T := tN f) (Q := qN f + 1) (K := kN f) hk hc w5.2 t6.2 (by omega) k4.2 ?_ ?_ nq_2 ?_ (fun j h1 h2 => nq_o (by omega) (by omega)) (fun i hi => ⟨nq_o (by omega) (by omega), fun j hj => nq_o (by omega) (by omega)⟩) (fun t ht j hj => nq_o (by omega) (by omega)) (fun q hq => nq_o (by omega) (by omega)) (fun k hk => nq_o (by omega) (by omega)) (fun j h1 h2 => nq_o (by omega) (by omega)) ?_ ?_ (by rw [e13, zup_s]) ?_ ?_ (fun j h1 h2 h3 => all 75 j (by omega) (by omega)) (fun i hi o h1 h2 => all (75 + o) i (by omega) (by omega)) (fun t ht => ⟨all _ t (by omega) (by omega), all _ t (by omega) (by omega)⟩) (fun t ht => all _ t (by omega) (by omega)) (fun t ht => all _ t (by omega) (by omega)) ⟨all _ 1 (by omega) (by omega), all _ 2 (by omega) (by omega)⟩ (fun j => by rw [L13]) (fun t h1 h2 => absurd h1 (by omega)) (fun t h1 h2 => absurd h1 (by omega)) (fun i h1 h2 => ?_) (fun t h1 h2 => absurd h1 (by omega))
  · rw [nq_o (by omega) (by omega)]; exact w5.1
  · rw [nq_o (by omega) (by omega)]; exact t6.1
  · rw [nq_o (by omega) (by omega)]; exact k4.1
  · rw [all (75 + 1) 6 (by omega) (by omega)]; exact hc.1.1.trans w5.1
  · rw [all 75 6 (by omega) (by omega)]; exact hc.1.2.1.trans t6.1
  · rw [all 75 8 (by omega) (by omega)]; exact hc.1.2.2.2.1.trans k4.1
  · rw [all 75 10 (by omega) (by omega), hc.1.2.2.2.2.2.1]
    exact (so_eqv (by show tn (nqF f s 1) = tn (f 1); rw [nq_o (by omega) (by omega)]) (fun t ht => nq_o (by omega) (by omega))).symm
  · have ei : i = qN f := by omega
    subst ei
    rw [nq_a, e13, zup_o (by decide), e11, zup_s]
theorem s_X4_readWoman {post : Int32 → zM → Prop} (ht : tcC M0 b n) (hI : clI b n M0 M q f) (hk4 : kN f < 4) (y : wdP b n q 10) (h0 : ∀ e, pWom b n (tb b n (wE b n q)) f = .inl e → ∀ M', M'.1 20 3 = nI e → zpi M' = zpi M0 → post 0 M') (h1 : ∀ r, pWom b n (tb b n (wE b n q)) f = .inr r → ∀ M', clI b n M0 M' r.1 r.2 → post 1 M') : zCi E jX4_readWoman (D + 7) 0 [.ref 20, .ref 75] M post px := by
  have hk := hI.2.2.2
  have w5 := hk.w
  have t6 := hk.t
  have q8 := hk.q
  have k4 := hk.k
  obtain ⟨nq, tq⟩ := wd_nx hI.1.2.2.2 (by decide) y
  refine e_X4_readWoman (s_X9_word (w := 10) (by decide) (ht.pi hI.2.1) hI.1 y (fun M1 t1 o1 => ?_))
  have I1 := hI.off o1 t1
  refine s_X9_takeNumberAfter (w := 11) (lo := 1) (hi := 20) rfl rfl (by decide) (by decide) (by decide) (ht.pi I1.2.1) I1.1 (fun r1 hr1 M3 t3 o3 => ?_) (fun e he M3 t3 o3 => ⟨fun z => absurd rfl z, fun _ => h0 e (wom_e he) M3 t3.1 (I1.off o3 t3).2.1⟩)
  obtain ⟨a1, a2, a3, a4⟩ := (nf_p nq (by decide)).2 r1 hr1
  have Iz := I1.off o3 t3
  have hc := Iz.2.2.1
  have h7 : M3.1 75 8 = nI (kN f) := hc.1.2.2.2.1.trans k4.1
  refine ⟨fun _ => ?_, fun z => absurd z (nI_m1 (by omega))⟩
  rw [h7, nI_clamp (by omega)]
  refine ⟨pk_in (kN f) _ hk4, fun M11 e11 M13 e13 => h1 _ (wom_r hr1) M13 ?_⟩
  have v11 : M11.1 75 8 = nI (kN f) := by rw [e11, zup_o (by decide)]; exact h7
  rw [v11, nI_1] at e13
  have all : ∀ o j, ¬ (o = 75 ∧ j = 8) → ¬ (o = 88 ∧ j = kN f) → M13.1 o j = M3.1 o j := fun o j g1 g2 => by rw [e13, zup_n (by omega), e11, zup_n (by omega)]
  have L13 : M13.2 = M3.2 := by rw [e13, zup_L, e11, zup_L]
  refine ⟨tk_same Iz.1 (fun j => all 20 j (by omega) (by omega)), (zpi_75 (M := M3) (fun o j h => all o j (by omega) (by omega)) L13).trans Iz.2.1, ?_, (ok_nk hk hk4 ⟨a3, a4⟩).1⟩
  show cR M13 75 (nkF f r1.2)
  refine cR_add (W := wN f) (T := tN f) (Q := qN f) (K := kN f + 1) hk hc w5.2 t6.2 q8.2 (by omega) ?_ ?_ ?_ nk_3 (fun j h1 h2 => nk_o (by omega) (by omega)) (fun i hi => ⟨nk_o (by omega) (by omega), fun j hj => nk_o (by omega) (by omega)⟩) (fun t ht j hj => nk_o (by omega) (by omega)) (fun q hq => nk_o (by omega) (by omega)) (fun k hk => nk_o (by omega) (by omega)) (fun j h1 h2 => nk_o (by omega) (by omega)) ?_ ?_ ?_ (by rw [e13, zup_s]) ?_ (fun j h1 h2 h3 => all 75 j (by omega) (by omega)) (fun i hi o h1 h2 => all (75 + o) i (by omega) (by omega)) (fun t ht => ⟨all _ t (by omega) (by omega), all _ t (by omega) (by omega)⟩) (fun t ht => all _ t (by omega) (by omega)) (fun t ht => all _ t (by omega) (by omega)) ⟨all _ 1 (by omega) (by omega), all _ 2 (by omega) (by omega)⟩ (fun j => by rw [L13]) (fun t h1 h2 => absurd h1 (by omega)) (fun t h1 h2 => absurd h1 (by omega)) (fun t h1 h2 => absurd h1 (by omega)) (fun i h1 h2 => ?_)
  · rw [nk_o (by omega) (by omega)]; exact w5.1
  · rw [nk_o (by omega) (by omega)]; exact t6.1
  · rw [nk_o (by omega) (by omega)]; exact q8.1
  · rw [all (75 + 1) 6 (by omega) (by omega)]; exact hc.1.1.trans w5.1
  · rw [all 75 6 (by omega) (by omega)]; exact hc.1.2.1.trans t6.1
  · rw [all 75 7 (by omega) (by omega)]; exact hc.1.2.2.1.trans q8.1
  · rw [all 75 10 (by omega) (by omega), hc.1.2.2.2.2.2.1]
    exact (so_eqv (by show tn (nkF f r1.2 1) = tn (f 1); rw [nk_o (by omega) (by omega)]) (fun t ht => nk_o (by omega) (by omega))).symm
  · have ei : i = kN f := by omega
    subst ei
    rw [nk_a, e13, zup_o (by decide), e11, zup_s]
theorem s_X4_readLine {post : Int32 → zM → Prop} (ht : tcC M0 b n) (hI : clI b n M0 M q f) (h0 : ∀ e, pCl b n q f = .inl e → ∀ M', M'.1 20 3 = nI e → zpi M' = zpi M0 → post 0 M') (h1 : ∀ r, pCl b n q f = .inr r → ∀ M', clI b n M0 M' r.1 r.2 → post 1 M') : zCi E jX4_readLine (D + 8) 0 [.ref 20, .ref 75] M post px := by
  have hk := hI.2.2.2
  have w5 := hk.w
  have t6 := hk.t
  have q8 := hk.q
  have k4 := hk.k
  have htM := ht.pi hI.2.1
  have hc := hI.2.2.1
  refine e_X4_readLine (s_X9_isWord (w := 0) (by decide) (by decide) htM hI.1 (fun y0 => z1B ?_) (fun y0 => z0A (s_X9_isWord (w := 5) (by decide) (by decide) htM hI.1 (fun y1 => z1B ?_) (fun y1 => z0A (s_X9_isWord (w := 9) (by decide) (by decide) htM hI.1 (fun y2 => z1B ?_) (fun y2 => z0A (s_X9_isWord (w := 10) (by decide) (by decide) htM hI.1 (fun y3 => z1B ?_) (fun y3 => z0A ?_))))))))
  · refine pk_le 5 (wN f) (fun z => ?_) (fun z => ?_) rfl (hc.1.1.trans w5.1)
    · exact t_X4_readLine_35 (t_X4_readLine_36 ⟨Or.inl rfl, h0 q (by unfold pCl; rw [if_pos y0, if_pos (by omega)]) M hI.1.1 hI.2.1⟩)
    · have e0 : pCl b n q f = pWit b n (tb b n (wE b n q)) f := by unfold pCl; rw [if_pos y0, if_neg (by omega)]
      exact s_X4_readWitness ht hI z y0 (fun e he M' a1 a2 => z0A (t_X4_readLine_35 (t_X4_readLine_36 ⟨Or.inl rfl, h0 e (e0.trans he) M' a1 a2⟩))) (fun r hr M' a1 => z1B (t_X4_readLine_36 ⟨Or.inr rfl, h1 r (e0.trans hr) M' a1⟩))
  · refine pk_le 6 (tN f) (fun z => ?_) (fun z => ?_) rfl (hc.1.2.1.trans t6.1)
    · exact t_X4_readLine_67 (t_X4_readLine_68 ⟨Or.inl rfl, h0 q (by unfold pCl; rw [if_neg y0, if_pos y1, if_pos (by omega)]) M hI.1.1 hI.2.1⟩)
    · have e0 : pCl b n q f = pThg b n (tb b n (wE b n q)) f := by unfold pCl; rw [if_neg y0, if_pos y1, if_neg (by omega)]
      exact s_X4_readThing ht hI z y1 (fun e he M' a1 a2 => z0A (t_X4_readLine_67 (t_X4_readLine_68 ⟨Or.inl rfl, h0 e (e0.trans he) M' a1 a2⟩))) (fun r hr M' a1 => z1B (t_X4_readLine_68 ⟨Or.inr rfl, h1 r (e0.trans hr) M' a1⟩))
  · refine pk_le 8 (qN f) (fun z => ?_) (fun z => ?_) rfl (hc.1.2.2.1.trans q8.1)
    · exact t_X4_readLine_99 (t_X4_readLine_100 ⟨Or.inl rfl, h0 q (by unfold pCl; rw [if_neg y0, if_neg y1, if_pos y2, if_pos (by omega)]) M hI.1.1 hI.2.1⟩)
    · have e0 : pCl b n q f = pAsk b n (tb b n (wE b n q)) f := by unfold pCl; rw [if_neg y0, if_neg y1, if_pos y2, if_neg (by omega)]
      exact s_X4_readQuestion ht hI z y2 (fun e he M' a1 a2 => z0A (t_X4_readLine_99 (t_X4_readLine_100 ⟨Or.inl rfl, h0 e (e0.trans he) M' a1 a2⟩))) (fun r hr M' a1 => z1B (t_X4_readLine_100 ⟨Or.inr rfl, h1 r (e0.trans hr) M' a1⟩))
  · refine pk_le 4 (kN f) (fun z => ?_) (fun z => ?_) rfl (hc.1.2.2.2.1.trans k4.1)
    · exact t_X4_readLine_130 (t_X4_readLine_131 ⟨Or.inl rfl, h0 q (by unfold pCl; rw [if_neg y0, if_neg y1, if_neg y2, if_pos y3, if_pos (by omega)]) M hI.1.1 hI.2.1⟩)
    · have e0 : pCl b n q f = pWom b n (tb b n (wE b n q)) f := by unfold pCl; rw [if_neg y0, if_neg y1, if_neg y2, if_pos y3, if_neg (by omega)]
      exact s_X4_readWoman ht hI z y3 (fun e he M' a1 a2 => z0A (t_X4_readLine_130 (t_X4_readLine_131 ⟨Or.inl rfl, h0 e (e0.trans he) M' a1 a2⟩))) (fun r hr M' a1 => z1B (t_X4_readLine_131 ⟨Or.inr rfl, h1 r (e0.trans hr) M' a1⟩))
  · exact s_X4_readNumber ht hI y0 y1 y2 y3 (fun e he M' a1 a2 => ⟨Or.inl rfl, h0 e he M' a1 a2⟩) (fun r hr M' a1 => ⟨Or.inr rfl, h1 r hr M' a1⟩)
theorem s_X4_read {post : Int32 → zM → Prop} (ht : tcC M b n) (hc : cR M 75 f) (hk : okF f) (h0 : ∀ e, pCourt b n f = .inl e → ∀ M', M'.1 20 3 = nI e → zpi M' = zpi M → post 0 M') (h1 : ∀ g, pCourt b n f = .inr g → ∀ M', zpi M' = zpi M → cR M' 75 g → post 1 M') : zCi E jX4_read (D + 9) 0 [.ref 20, .ref 75] M post px := by
  refine e_X4_read (s_X9_open ht (fun M1 t1 o1 => ?_))
  have I1 : clI b n M M1 (tb b n 0) f := ⟨t1, o1.pi, cR_same (fun o j a1 a2 => ⟨o1.1 o j (by omega), by rw [o1.2]⟩) hk hc, hk⟩
  have loop : ∀ (k i : Nat) {M' : zM} {q : Nat} {f : zRow}, i + k = 14 → clI b n M M' q f → (∀ e, pCtL b n k q f = .inl e → ∀ M', M'.1 20 3 = nI e → zpi M' = zpi M → post 0 M') → (∀ g, pCtL b n k q f = .inr g → ∀ M', zpi M' = zpi M → cR M' 75 g → post 1 M') → w_X4_read_15 E (D + 8) post px (nI i) M' := by
    intro k
    induction k with
    | zero =>
      intro i M' q f hi hI h0 h1
      exact t_X4_read_15 (pk_le 14 i (fun _ => h0 q rfl M' hI.1.1 hI.2.1) (fun z => absurd z (by omega)))
    | succ k ih =>
      intro i M' q f hi hI h0 h1
      refine t_X4_read_15 (pk_le 14 i (fun z => absurd z (by omega)) (fun _ => s_X4_readLine ht hI (fun e he M4 b1 b2 => z0B (h0 e (ctL_e he) M4 b1 b2)) (fun r hr M4 I4 => z1A ?_)))
      have e0 := ctL_r (k := k) hr
      refine s_X9_isEnd I4.1 (fun y => z1B ?_) (fun y => z0A ?_)
      · rw [if_pos y] at e0
        exact h1 _ e0 M4 I4.2.1 I4.2.2.1
      · rw [if_neg (by omega)] at e0
        refine s_X9_takeSign (c := 59) rfl (by decide) (ht.pi I4.2.1) I4.1 (fun s M16 t16 o16 => z1A ?_) (fun s => z0B ?_)
        · rw [if_pos s] at e0
          rw [nI_1]
          exact ih (i + 1) (by omega) (I4.off o16 t16) (fun e he => h0 e (e0.trans he)) (fun g hg => h1 g (e0.trans hg))
        · rw [if_neg s] at e0
          exact h0 _ e0 M4 I4.1.1 I4.2.1
  refine s_X9_isEnd t1 (fun y => z1B ?_) (fun y => z0A ?_)
  · exact h1 f (if_pos y) M1 o1.pi I1.2.2.1
  · have e0 : pCourt b n f = pCtL b n 14 (tb b n 0) f := if_neg (by omega)
    exact loop 14 0 rfl I1 (fun e he => h0 e (e0.trans he)) (fun g hg => h1 g (e0.trans hg))
end COURTC
