/-! ===== a court's text read by the reference ===== -/
def offW (M M0 : zM) : Prop := (∀ o j, o ≠ 0 → o ≠ 1 → M.1 o j = M0.1 o j) ∧ (∀ j, j ≠ 10 → j ≠ 12 → j ≠ 16 → M.1 0 j = M0.1 0 j) ∧ M.2 = M0.2
theorem offW.refl {M : zM} : offW M M := ⟨fun _ _ _ _ => rfl, fun _ _ _ _ => rfl, rfl⟩
theorem offW.rp {M' M M0 : zM} {p q : Nat} (h : offW M M0) (r : rp M' M p q) : offW M' M0 := ⟨fun o j h1 h2 => (r.2.2.1 o j (by omega)).trans (h.1 o j h1 h2), fun j h1 h2 h3 => (r.2.2.1 0 j (by omega)).trans (h.2.1 j h1 h2 h3), r.2.2.2.trans h.2.2⟩
theorem offW.up {M' M M0 : zM} {j : Nat} {v : Int32} (h : offW M M0) (e : M' = zup M 1 j v) : offW M' M0 := by
  subst e
  exact ⟨fun o i h1 h2 => by rw [zup_o h2]; exact h.1 o i h1 h2, fun i h1 h2 h3 => by rw [zup_o (by decide)]; exact h.2.1 i h1 h2 h3, h.2.2⟩
theorem offW.up0 {M' M M0 : zM} {j : Nat} {v : Int32} (h : offW M M0) (e : M' = zup M 0 j v) (hj : j = 10 ∨ j = 16) : offW M' M0 := by
  subst e
  exact ⟨fun o i h1 h2 => by rw [zup_o h1]; exact h.1 o i h1 h2, fun i h1 h2 h3 => by rw [zup_n (by omega)]; exact h.2.1 i h1 h2 h3, h.2.2⟩
theorem tcR.offW {b : Nat → Nat} {n : Nat} {M M0 : zM} (h : tcR M0 b n) (o : offW M M0) : tcR M b n := ⟨h.1, by rw [o.2.1 11 (by decide) (by decide) (by decide)]; exact h.2.1, fun j hj => by rw [o.1 6 j (by decide) (by decide)]; exact h.2.2 j hj⟩
/-- the point is p, the world f -/
def crI (n : Nat) (M0 M : zM) (p : Nat) (f : zRow) : Prop := M.1 0 10 = nI p ∧ p ≤ n ∧ M.1 1 = f ∧ offW M M0
theorem rp.w {M' M : zM} {p q : Nat} (r : rp M' M p q) : M'.1 1 = M.1 1 := funext fun j => r.2.2.1 1 j (by omega)
theorem crI.rp {n p p' q' : Nat} {f : zRow} {M0 M M' : zM} (h : crI n M0 M p f) (r : rp M' M p' q') (hp : p' ≤ n) : crI n M0 M' p' f := ⟨r.1, hp, r.w.trans h.2.2.1, h.2.2.2.rp r⟩
theorem crI.up {n p j : Nat} {f : zRow} {M0 M M' : zM} {v : Int32} (h : crI n M0 M p f) (e : M' = zup M 1 j v) : crI n M0 M' p (upd f j v) := ⟨by rw [e, zup_o (by decide)]; exact h.1, h.2.1, by rw [e, zup_row, h.2.2.1], h.2.2.2.up e⟩
theorem le0N {v : Nat} (h : v < 2 ^ 31) : (0 : Int32) ≤ nI v := nI_le (a := 0) (Nat.zero_le v) h
section COURTR
variable {b : Nat → Nat} {n : Nat} {E : zEv} {D : Nat} {px : String → zM → Prop} {M M0 : zM} {p q : Nat} {f : zRow}
theorem s_X12_readWitness {post : Int32 → zM → Prop} (ht : tcR M0 b n) (hI : crI n M0 M p f) (hk : okF f) (hq : tb b n p = q) (h5 : wN f = 5 → post 0 M) (h0 : wN f ≠ 5 → ∀ e, pWit b n q f = .inl e → ∀ M', M'.1 0 12 = nI e → offW M' M0 → post 0 M') (h1 : wN f ≠ 5 → ∀ r, pWit b n q f = .inr r → ∀ M' p', crI n M0 M' p' r.2 → tb b n p' = r.1 → post 1 M') : zCi E jX12_readWitness (D + 7) 0 [.ref 0] M post px := by
  have w5 := hk.w
  have nb := nbl_tb (b := b) hI.2.1
  rw [hq] at nb
  refine e_X12_readWitness (e_X12_witnesses ?_)
  have v0 : M.1 1 ((0 : Int32)).toNatClampNeg = nI (wN f) := by rw [hI.2.2.1]; exact w5.1
  rw [v0]
  refine (pk_eq (wN f) 5 h5 (fun c5 => ?_)).symm
  have wl5 : wN f < 5 := by omega
  refine s_X12_behind (w := 1) (lo := 0) (hi := 9) rfl rfl (by decide) (by decide) (ht.offW hI.2.2.2) hI.1 hI.2.1 hq (fun r1 hr1 M7 p7 q7 rp7 l7 e7 => ?_) (fun e he M7 p7 rp7 => ⟨fun z => absurd z (by decide), fun _ => t_X12_readWitness_39 ⟨fun z => absurd z (by decide), fun _ => h0 c5 e (wit_1 he) M7 rp7.2.1 (hI.2.2.2.rp rp7)⟩⟩)
  have I7 := hI.rp rp7 l7
  obtain ⟨a1, a2, a3, a4⟩ := (nf_p nb (by decide)).2 r1 hr1
  refine ⟨fun _ => ?_, fun z => absurd (le0N (by omega)) z⟩
  refine s_X12_behind (w := 2) (lo := 0) (hi := 9) rfl rfl (by decide) (by decide) (ht.offW I7.2.2.2) I7.1 I7.2.1 e7 (fun r2 hr2 M13 p13 q13 rp13 l13 e13 => ?_) (fun e he M13 p13 rp13 => t_X12_readWitness_39 ⟨fun z => absurd z (by decide), fun _ => h0 c5 e (wit_2 hr1 he) M13 rp13.2.1 (I7.2.2.2.rp rp13)⟩)
  have I13 := I7.rp rp13 l13
  obtain ⟨b1, b2, b3, b4⟩ := (nf_p a1 (by decide)).2 r2 hr2
  refine t_X12_readWitness_39 ⟨fun _ => ?_, fun z => absurd (le0N (by omega)) z⟩
  refine s_X12_told (w := 3) (by decide) (ht.offW I13.2.2.2) I13.1 I13.2.1 e13 (fun r3 hr3 M4 p4 q4 rp4 l4 e4 => ?_) (fun e he M4 p4 rp4 => ⟨fun z => absurd z (by decide), fun _ => t_X12_readWitness_69 ⟨fun z => absurd z (by decide), fun _ => h0 c5 e (wit_3 hr1 hr2 he) M4 rp4.2.1 (I13.2.2.2.rp rp4)⟩⟩)
  have I4 := I13.rp rp4 l4
  obtain ⟨c1, c2, c3⟩ := (to_p b1 (by decide)).2 r3 hr3
  refine ⟨fun _ => ?_, fun z => absurd (le0N (by omega)) z⟩
  refine s_X12_told (w := 4) (by decide) (ht.offW I4.2.2.2) I4.1 I4.2.1 e4 (fun r4 hr4 M10 p10 q10 rp10 l10 e10 => ?_) (fun e he M10 p10 rp10 => t_X12_readWitness_69 ⟨fun z => absurd z (by decide), fun _ => h0 c5 e (wit_4 hr1 hr2 hr3 he) M10 rp10.2.1 (I4.2.2.2.rp rp10)⟩)
  have I10 := I4.rp rp10 l10
  obtain ⟨d1, d2, d3⟩ := (to_p c1 (by decide)).2 r4 hr4
  refine t_X12_readWitness_69 ⟨fun _ => ?_, fun z => absurd (le0N (by omega)) z⟩
  refine s_X12_at (what := 0) ⟨pk_in _ _ (show 29 + 5 * wN f + 0 < 2070 by omega), fun N1 x1 => s_X12_at (what := 1) ⟨pk_in _ _ (show 29 + 5 * wN f + 1 < 2070 by omega), fun N2 x2 => s_X12_at (what := 2) ⟨pk_in _ _ (show 29 + 5 * wN f + 2 < 2070 by omega), fun N3 x3 => s_X12_at (what := 3) ⟨pk_in _ _ (show 29 + 5 * wN f + 3 < 2070 by omega), fun N4 x4 => s_X12_at (what := 4) ⟨pk_in _ _ (show 29 + 5 * wN f + 4 < 2070 by omega), fun N5 x5 => ?_⟩⟩⟩⟩⟩
  rw [show (24 : Int32) + nI (wN f) = nI (24 + wN f) from nI_add 24 (wN f)]
  refine ⟨pk_in _ _ (show 24 + wN f < 2070 by omega), fun N6 x6 N7 x7 => ?_⟩
  rw [nI_clamp (by omega)] at x1 x2 x3 x4 x5 x6
  have J6 := (((((I10.up x1).up x2).up x3).up x4).up x5).up x6
  have v6 : N6.1 1 ((0 : Int32)).toNatClampNeg = nI (wN f) := by
    rw [J6.2.2.1]
    show upd _ _ _ 0 = _
    rw [pk_un (by omega), pk_un (by omega), pk_un (by omega), pk_un (by omega), pk_un (by omega), pk_un (by omega)]
    exact w5.1
  rw [v6, nI_1] at x7
  exact h1 c5 _ (wit_r hr1 hr2 hr3 hr4) N7 p10 (J6.up x7) e10
theorem s_X12_readThing {post : Int32 → zM → Prop} (ht : tcR M0 b n) (hI : crI n M0 M p f) (hk : okF f) (hq : tb b n p = q) (h5 : tN f = 6 → post 0 M) (h0 : tN f ≠ 6 → ∀ e, pThg b n q f = .inl e → ∀ M', M'.1 0 12 = nI e → offW M' M0 → post 0 M') (h1 : tN f ≠ 6 → ∀ r, pThg b n q f = .inr r → ∀ M' p', crI n M0 M' p' r.2 → tb b n p' = r.1 → post 1 M') : zCi E jX12_readThing (D + 7) 0 [.ref 0] M post px := by
  have w5 := hk.w
  have t6 := hk.t
  have nb := nbl_tb (b := b) hI.2.1
  rw [hq] at nb
  refine e_X12_readThing (e_X12_things ?_)
  have v0 : M.1 1 ((1 : Int32)).toNatClampNeg = nI (tN f) := by rw [hI.2.2.1]; exact t6.1
  rw [v0]
  refine (pk_eq (tN f) 6 h5 (fun c5 => ?_)).symm
  refine s_X12_behind (w := 6) (lo := 1) (hi := 9) rfl rfl (by decide) (by decide) (ht.offW hI.2.2.2) hI.1 hI.2.1 hq (fun r1 hr1 M7 p7 q7 rp7 l7 e7 => ?_) (fun e he M7 p7 rp7 => ⟨fun z => absurd z (by decide), fun _ => h0 c5 e (thg_1 he) M7 rp7.2.1 (hI.2.2.2.rp rp7)⟩)
  have I7 := hI.rp rp7 l7
  obtain ⟨a1, a2, a3, a4⟩ := (nf_p nb (by decide)).2 r1 hr1
  refine ⟨fun _ => ?_, fun z => absurd (le0N (by omega)) z⟩
  have fin : ∀ (Mz : zM) (pz : Nat) (r2 : Nat × Nat), pTou b n r1.1 (wN f) = .inr r2 → crI n M0 Mz pz f → tb b n pz = r2.1 → w_X12_readThing_65 E (D + 6) post px (nI (tN f)) (nI r1.2) (nI r2.2) Mz := by
    intro Mz pz r2 hr2 Iz ez
    refine t_X12_readThing_65 (s_X12_thingAt (what := 0) ⟨pk_in _ _ (show 54 + 3 * tN f + 0 < 2070 by omega), fun N1 x1 => s_X12_thingAt (what := 1) ⟨pk_in _ _ (show 54 + 3 * tN f + 1 < 2070 by omega), fun N2 x2 => s_X12_thingAt (what := 2) ?_⟩⟩)
    rw [nI_clamp (by omega)] at x1 x2
    have J2 := (Iz.up x1).up x2
    have nz := nbl_tb (b := b) Iz.2.1
    rw [ez] at nz
    have last : ∀ (N3 : zM) (p3 : Nat) (x : Int32), x = nI (pSo b n r2.1).2 → crI n M0 N3 p3 (upd (upd f (54 + 3 * tN f + 0) (nI r1.2)) (54 + 3 * tN f + 1) (nI r2.2)) → tb b n p3 = (pSo b n r2.1).1 → w_X12_readThing_111 E (D + 6) post px x (nI (54 + 3 * tN f + 2)) N3 := by
      intro N3 p3 x hx J3 e3
      refine t_X12_readThing_111 ⟨pk_in _ _ (show 54 + 3 * tN f + 2 < 2070 by omega), fun N4 x4 N5 x5 => ?_⟩
      rw [nI_clamp (by omega), hx] at x4
      have J4 := J3.up x4
      have v4 : N4.1 1 ((1 : Int32)).toNatClampNeg = nI (tN f) := by
        rw [J4.2.2.1]
        show upd _ _ _ 1 = _
        rw [pk_un (by omega), pk_un (by omega), pk_un (by omega)]
        exact t6.1
      rw [v4, nI_1] at x5
      exact h1 c5 _ (thg_r hr1 hr2) N5 p3 (J4.up x5) e3
    refine s_X12_passes (w := 8) (by decide) (ht.offW J2.2.2.2) J2.1 J2.2.1 ez (fun y8 N3 r3 => z1B ?_) (fun y8 N3 r3 => z0A ?_)
    · have e0 : pSo b n r2.1 = (tb b n (wE b n r2.1), 1) := if_pos y8
      exact last N3 _ 1 (by rw [e0]; rfl) (J2.rp r3 (wE_hi nz.1)) (by rw [e0])
    · have e0 : pSo b n r2.1 = (r2.1, 0) := if_neg y8
      exact last N3 _ 0 (by rw [e0]; rfl) (J2.rp r3 nz.1) (by rw [e0]; exact tb_id nz)
  refine s_X12_passes (w := 7) (by decide) (ht.offW I7.2.2.2) I7.1 I7.2.1 e7 (fun y7 M13 r13 => z1B ?_) (fun y7 M13 r13 => z0A (t_X12_readThing_52 (z0A (fin M13 r1.1 (r1.1, 0) (tou_n y7) (I7.rp r13 a1.1) (tb_id a1)))))
  have I13 := I7.rp r13 (wE_hi a1.1)
  obtain ⟨n1, n2⟩ := wd_nx a1 (by decide) y7
  refine e_X12_witnesses ?_
  have vw : M13.1 1 ((0 : Int32)).toNatClampNeg = nI (wN f) := by rw [I13.2.2.1]; exact w5.1
  rw [vw]
  refine s_X12_lettersTold (m := wN f) rfl (by omega) (ht.offW I13.2.2.2) I13.1 I13.2.1 rfl (fun M22 r22 => ?_)
  have I22 := I13.rp r22 (wE_hi n1.1)
  cases hl : letF b n (tb b n (wE b n r1.1)) (wN f) with
  | none => exact t_X12_readThing_52 (z1B (z0B (h0 c5 _ (thg_2 hr1 (tou_e y7 hl)) M22 r22.2.1 I22.2.2.2)))
  | some s =>
    have g := letF_some hl
    have p5 : 2 ^ wN f ≤ 2 ^ 5 := Nat.pow_le_pow_right (by decide) w5.2
    exact t_X12_readThing_52 (z1B ⟨fun _ => fin M22 _ _ (tou_r y7 hl) I22 rfl, fun z => absurd z (nI_ne0 g.2.1 (by omega))⟩)
theorem s_X12_readAsk {post : Int32 → zM → Prop} (ht : tcR M0 b n) (hI : crI n M0 M p f) (hk : okF f) (hq : tb b n p = q) (h5 : qN f = 8 → post 0 M) (h0 : qN f ≠ 8 → ∀ e, pAsk b n q f = .inl e → ∀ M', M'.1 0 12 = nI e → offW M' M0 → post 0 M') (h1 : qN f ≠ 8 → ∀ r, pAsk b n q f = .inr r → ∀ M' p', crI n M0 M' p' r.2 → tb b n p' = r.1 → post 1 M') : zCi E jX12_readAsk (D + 7) 0 [.ref 0] M post px := by
  have t6 := hk.t
  have q8 := hk.q
  have nb := nbl_tb (b := b) hI.2.1
  rw [hq] at nb
  refine e_X12_readAsk (e_X12_questions ?_)
  have v0 : M.1 1 ((2 : Int32)).toNatClampNeg = nI (qN f) := by rw [hI.2.2.1]; exact q8.1
  rw [v0]
  refine (pk_eq (qN f) 8 h5 (fun c5 => e_X12_things ?_)).symm
  have v1 : M.1 1 ((1 : Int32)).toNatClampNeg = nI (tN f) := by rw [hI.2.2.1]; exact t6.1
  rw [v1]
  refine s_X12_lettersTold (m := tN f) rfl t6.2 (ht.offW hI.2.2.2) hI.1 hI.2.1 hq (fun M10 r10 => ?_)
  have I10 := hI.rp r10 (wE_hi nb.1)
  cases hl : letF b n q (tN f) with
  | none => exact z0B (h0 c5 _ (ask_e hl) M10 r10.2.1 I10.2.2.2)
  | some s =>
    have g := letF_some hl
    have p6 : 2 ^ tN f ≤ 2 ^ 6 := Nat.pow_le_pow_right (by decide) t6.2
    refine ⟨fun _ => e_X12_questions ?_, fun z => absurd z (nI_ne0 g.2.1 (by omega))⟩
    have v2 : M10.1 1 ((2 : Int32)).toNatClampNeg = nI (qN f) := by rw [I10.2.2.1]; exact q8.1
    rw [v2, show (12 : Int32) + nI (qN f) = nI (12 + qN f) from nI_add 12 (qN f)]
    refine ⟨pk_in _ _ (show 12 + qN f < 2070 by omega), fun N1 x1 N2 x2 => ?_⟩
    rw [nI_clamp (by omega)] at x1
    have J1 := I10.up x1
    have v3 : N1.1 1 ((2 : Int32)).toNatClampNeg = nI (qN f) := by
      rw [J1.2.2.1]
      show upd _ _ _ 2 = _
      rw [pk_un (by omega)]
      exact q8.1
    rw [v3, nI_1] at x2
    exact h1 c5 _ (ask_r hl) N2 _ (J1.up x2) rfl
theorem s_X12_readWoman {post : Int32 → zM → Prop} (ht : tcR M0 b n) (hI : crI n M0 M p f) (hk : okF f) (hq : tb b n p = q) (h5 : kN f = 4 → post 0 M) (h0 : kN f ≠ 4 → ∀ e, pWom b n q f = .inl e → ∀ M', M'.1 0 12 = nI e → offW M' M0 → post 0 M') (h1 : kN f ≠ 4 → ∀ r, pWom b n q f = .inr r → ∀ M' p', crI n M0 M' p' r.2 → tb b n p' = r.1 → post 1 M') : zCi E jX12_readWoman (D + 7) 0 [.ref 0] M post px := by
  have k4 := hk.k
  have nb := nbl_tb (b := b) hI.2.1
  rw [hq] at nb
  refine e_X12_readWoman (e_X12_women ?_)
  have v0 : M.1 1 ((3 : Int32)).toNatClampNeg = nI (kN f) := by rw [hI.2.2.1]; exact k4.1
  rw [v0]
  refine (pk_eq (kN f) 4 h5 (fun c5 => ?_)).symm
  refine s_X12_behind (w := 11) (lo := 1) (hi := 20) rfl rfl (by decide) (by decide) (ht.offW hI.2.2.2) hI.1 hI.2.1 hq (fun r1 hr1 M7 p7 q7 rp7 l7 e7 => ?_) (fun e he M7 p7 rp7 => ⟨fun z => absurd z (by decide), fun _ => h0 c5 e (wom_e he) M7 rp7.2.1 (hI.2.2.2.rp rp7)⟩)
  have I7 := hI.rp rp7 l7
  obtain ⟨a1, a2, a3, a4⟩ := (nf_p nb (by decide)).2 r1 hr1
  refine ⟨fun _ => e_X12_women ?_, fun z => absurd (le0N (by omega)) z⟩
  have v2 : M7.1 1 ((3 : Int32)).toNatClampNeg = nI (kN f) := by rw [I7.2.2.1]; exact k4.1
  rw [v2, show (20 : Int32) + nI (kN f) = nI (20 + kN f) from nI_add 20 (kN f)]
  refine ⟨pk_in _ _ (show 20 + kN f < 2070 by omega), fun N1 x1 N2 x2 => ?_⟩
  rw [nI_clamp (by omega)] at x1
  have J1 := I7.up x1
  have v3 : N1.1 1 ((3 : Int32)).toNatClampNeg = nI (kN f) := by
    rw [J1.2.2.1]
    show upd _ _ _ 3 = _
    rw [pk_un (by omega)]
    exact k4.1
  rw [v3, nI_1] at x2
  exact h1 c5 _ (wom_r hr1) N2 p7 (J1.up x2) e7
theorem s_X12_readNumber {post : Int32 → zM → Prop} {i hi : Nat} {x y : Int32} (hx : x = nI i) (hy : y = nI hi) (hh : hi < 2 ^ 30) (i12 : i < 12) (ht : tcR M0 b n) (hI : crI n M0 M p f) (hq : tb b n p = q) (h0 : ∀ e, pNum b n i hi q f = .inl e → ∀ M', M'.1 0 12 = nI e → offW M' M0 → post 0 M') (h1 : ∀ r, pNum b n i hi q f = .inr r → ∀ M' p', crI n M0 M' p' r.2 → tb b n p' = r.1 → post 1 M') : zCi E jX12_readNumber (D + 3) 0 [.ref 0, .int x, .int 0, .int y] M post px := by
  have nb := nbl_tb (b := b) hI.2.1
  rw [hq] at nb
  refine e_X12_readNumber (s_X12_number (lo := 0) (hi := hi) rfl hy ⟨by decide, hh⟩ (ht.offW hI.2.2.2) hI.1 hI.2.1 hq (fun M1 r1 => ?_))
  have I1 := hI.rp r1 (dE_hi nb.1)
  rw [hx, nI_clamp (by omega)]
  have iv : vp_in (nI i) 2070 := pk_in i _ (by omega)
  cases hv : nuF b n q 0 hi with
  | none =>
    refine ⟨fun z => absurd z (by decide), fun _ => ⟨iv, t_X12_readNumber_29 ⟨iv, fun M3 e3 => ⟨fun _ => t_X12_readNumber_40 ⟨Or.inl rfl, h0 _ (num_e hv) M3 (by rw [e3, zup_o (by decide)]; exact r1.2.1) (I1.2.2.2.up e3)⟩, fun z => absurd (by decide) z⟩⟩⟩⟩
  | some v =>
    have g := nuF_some hv
    refine ⟨fun _ => t_X12_readNumber_29 ⟨iv, fun M3 e3 => ⟨fun z => absurd z (nI_pos (by omega)), fun _ => t_X12_readNumber_40 ⟨Or.inr rfl, ?_⟩⟩⟩, fun z => absurd (le0N (by omega)) z⟩
    rw [nI_clamp (by omega)] at e3
    exact h1 _ (num_r hv) M3 _ (I1.up e3) rfl
/-- the point stands behind the line's first word -/
theorem s_X12_readCourtLine {post : Int32 → zM → Prop} (ht : tcR M0 b n) (hI : crI n M0 M (wE b n q) f) (h12 : M.1 0 12 = nI q) (hk : okF f) (nb : nbl b n q) (h0 : ∀ e, pCl b n q f = .inl e → ∀ M', M'.1 0 12 = nI e → offW M' M0 → post 0 M') (h1 : ∀ r, pCl b n q f = .inr r → ∀ M' p', crI n M0 M' p' r.2 → tb b n p' = r.1 → post 1 M') : zCi E jX12_readCourtLine (D + 8) 0 [.ref 0] M post px := by
  have htM := ht.offW hI.2.2.2
  have hp := hI.1
  have hn := nb.1
  refine e_X12_readCourtLine (s_X12_isWord (w := 0) (by decide) htM hp h12 hn (fun y0 => z1B ?_) (fun y0 => z0A (s_X12_isWord (w := 5) (by decide) htM hp h12 hn (fun y1 => z1B ?_) (fun y1 => z0A (s_X12_isWord (w := 9) (by decide) htM hp h12 hn (fun y2 => z1B ?_) (fun y2 => z0A (s_X12_isWord (w := 10) (by decide) htM hp h12 hn (fun y3 => z1B ?_) (fun y3 => z0A (s_X12_isWord (w := 12) (by decide) htM hp h12 hn (fun y4 => z1B ?_) (fun y4 => z0A (s_X12_isWord (w := 13) (by decide) htM hp h12 hn (fun y5 => z1B ?_) (fun y5 => z0A (s_X12_isWord (w := 14) (by decide) htM hp h12 hn (fun y6 => z1B ?_) (fun y6 => z0A (s_X12_isWord (w := 15) (by decide) htM hp h12 hn (fun y7 => z1B ?_) (fun y7 => z0A ?_))))))))))))))))
  · refine s_X12_readWitness ht hI hk rfl (fun c => ⟨Or.inl rfl, h0 q (by unfold pCl; rw [if_pos y0, if_pos c]) M h12 hI.2.2.2⟩) (fun c e he M' a1 a2 => ⟨Or.inl rfl, h0 e (by unfold pCl; rw [if_pos y0, if_neg c]; exact he) M' a1 a2⟩) (fun c r hr M' p' a1 a2 => ⟨Or.inr rfl, h1 r (by unfold pCl; rw [if_pos y0, if_neg c]; exact hr) M' p' a1 a2⟩)
  · refine s_X12_readThing ht hI hk rfl (fun c => ⟨Or.inl rfl, h0 q (by unfold pCl; rw [if_neg y0, if_pos y1, if_pos c]) M h12 hI.2.2.2⟩) (fun c e he M' a1 a2 => ⟨Or.inl rfl, h0 e (by unfold pCl; rw [if_neg y0, if_pos y1, if_neg c]; exact he) M' a1 a2⟩) (fun c r hr M' p' a1 a2 => ⟨Or.inr rfl, h1 r (by unfold pCl; rw [if_neg y0, if_pos y1, if_neg c]; exact hr) M' p' a1 a2⟩)
  · refine s_X12_readAsk ht hI hk rfl (fun c => ⟨Or.inl rfl, h0 q (by unfold pCl; rw [if_neg y0, if_neg y1, if_pos y2, if_pos c]) M h12 hI.2.2.2⟩) (fun c e he M' a1 a2 => ⟨Or.inl rfl, h0 e (by unfold pCl; rw [if_neg y0, if_neg y1, if_pos y2, if_neg c]; exact he) M' a1 a2⟩) (fun c r hr M' p' a1 a2 => ⟨Or.inr rfl, h1 r (by unfold pCl; rw [if_neg y0, if_neg y1, if_pos y2, if_neg c]; exact hr) M' p' a1 a2⟩)
  · refine s_X12_readWoman ht hI hk rfl (fun c => ⟨Or.inl rfl, h0 q (by unfold pCl; rw [if_neg y0, if_neg y1, if_neg y2, if_pos y3, if_pos c]) M h12 hI.2.2.2⟩) (fun c e he M' a1 a2 => ⟨Or.inl rfl, h0 e (by unfold pCl; rw [if_neg y0, if_neg y1, if_neg y2, if_pos y3, if_neg c]; exact he) M' a1 a2⟩) (fun c r hr M' p' a1 a2 => ⟨Or.inr rfl, h1 r (by unfold pCl; rw [if_neg y0, if_neg y1, if_neg y2, if_pos y3, if_neg c]; exact hr) M' p' a1 a2⟩)
  · have e0 : pCl b n q f = pNum b n 7 9 (tb b n (wE b n q)) f := by unfold pCl; rw [if_neg y0, if_neg y1, if_neg y2, if_neg y3, if_pos y4]
    exact s_X12_readNumber (i := 7) (hi := 9) rfl rfl (by decide) (by decide) ht hI rfl (fun e he M' a1 a2 => ⟨Or.inl rfl, h0 e (e0.trans he) M' a1 a2⟩) (fun r hr M' p' a1 a2 => ⟨Or.inr rfl, h1 r (e0.trans hr) M' p' a1 a2⟩)
  · have e0 : pCl b n q f = pNum b n 8 100 (tb b n (wE b n q)) f := by unfold pCl; rw [if_neg y0, if_neg y1, if_neg y2, if_neg y3, if_neg y4, if_pos y5]
    exact s_X12_readNumber (i := 8) (hi := 100) rfl rfl (by decide) (by decide) ht hI rfl (fun e he M' a1 a2 => ⟨Or.inl rfl, h0 e (e0.trans he) M' a1 a2⟩) (fun r hr M' p' a1 a2 => ⟨Or.inr rfl, h1 r (e0.trans hr) M' p' a1 a2⟩)
  · have e0 : pCl b n q f = pNum b n 9 100 (tb b n (wE b n q)) f := by unfold pCl; rw [if_neg y0, if_neg y1, if_neg y2, if_neg y3, if_neg y4, if_neg y5, if_pos y6]
    exact s_X12_readNumber (i := 9) (hi := 100) rfl rfl (by decide) (by decide) ht hI rfl (fun e he M' a1 a2 => ⟨Or.inl rfl, h0 e (e0.trans he) M' a1 a2⟩) (fun r hr M' p' a1 a2 => ⟨Or.inr rfl, h1 r (e0.trans hr) M' p' a1 a2⟩)
  · have e0 : pCl b n q f = pNum b n 6 999 (tb b n (wE b n q)) f := by unfold pCl; rw [if_neg y0, if_neg y1, if_neg y2, if_neg y3, if_neg y4, if_neg y5, if_neg y6, if_pos y7]
    exact s_X12_readNumber (i := 6) (hi := 999) rfl rfl (by decide) (by decide) ht hI rfl (fun e he M' a1 a2 => z0A (t_X12_readCourtLine_139 (t_X12_readCourtLine_140 ⟨Or.inl rfl, h0 e (e0.trans he) M' a1 a2⟩))) (fun r hr M' p' a1 a2 => z1B (t_X12_readCourtLine_140 ⟨Or.inr rfl, h1 r (e0.trans hr) M' p' a1 a2⟩))
  · have e0 : pCl b n q f = .inl q := by unfold pCl; rw [if_neg y0, if_neg y1, if_neg y2, if_neg y3, if_neg y4, if_neg y5, if_neg y6, if_neg y7]
    exact t_X12_readCourtLine_139 (t_X12_readCourtLine_140 ⟨Or.inl rfl, h0 q e0 M h12 hI.2.2.2⟩)
theorem s_X12_readCourt {post : Int32 → zM → Prop} (h4 : n ≤ 400) (h9 : M.1 0 9 = nI n) (hb : ∀ j, j < 400 → M.1 6 j = sb (b j) ∧ b j < 256) (hf : M.1 1 = f) (hk : okF f) (h0 : ∀ e, pCourt b n f = .inl e → ∀ M', M'.1 0 12 = nI e → offW M' (usM M) → post (-1) M') (h1 : ∀ g, pCourt b n f = .inr g → ∀ M' v, M'.1 1 = g → offW M' (usM M) → v ≤ 14 → post (nI v) M') : zCi E jX12_readAll (D + 10) 0 [.ref 0, .int 1] M post px := by
  have ht : tcR (usM M) b n := ⟨h4, by rw [us_11]; exact h9, fun j hj => by rw [us_o (by decide)]; exact hb j hj⟩
  refine e_X12_readAll (s_X12_uses (fun M3 e3 => ?_))
  have o3 : offW M3 (usM M) := offW.refl.up0 e3 (by omega)
  have p3 : M3.1 0 10 = nI 0 := by rw [e3, zup_n (Or.inr (by decide))]; rfl
  have f3 : M3.1 1 = f := by rw [e3, zup_o (by decide), us_o (by decide)]; exact hf
  refine s_X12_blanks (ht.offW o3) p3 (Nat.zero_le n) (fun M5 r5 => ?_)
  have nb0 := nbl_tb (b := b) (Nat.zero_le n)
  have I5 : crI n (usM M) M5 (tb b n 0) f := ⟨r5.1, nb0.1, r5.w.trans f3, o3.rp r5⟩
  have t5 := ht.offW I5.2.2.2
  have loop : ∀ (k i : Nat) {M' : zM} {p q : Nat} {f : zRow}, i + k = 14 → crI n (usM M) M' p f → okF f → tb b n p = q → (∀ e, pCtL b n k q f = .inl e → ∀ M', M'.1 0 12 = nI e → offW M' (usM M) → post (-1) M') → (∀ g, pCtL b n k q f = .inr g → ∀ M' v, M'.1 1 = g → offW M' (usM M) → v ≤ 14 → post (nI v) M') → w_X12_readAll_28 E (D + 9) post px 1 (nI i) M' := by
    intro k
    induction k with
    | zero =>
      intro i M' p q f hi hI hk hq h0 h1
      refine t_X12_readAll_28 (e_X12_readLine (s_X12_letters (ht.offW hI.2.2.2) hI.1 hI.2.1 (fun M1 r1 => z1B (t_X12_readLine_16 (pk_le 14 i (fun _ => t_X12_readLine_45 (t_X12_readLine_46 ⟨Or.inl rfl, z0B ?_⟩)) (fun z => absurd z (by omega)))))))
      rw [hq] at r1
      exact h0 q rfl M1 r1.2.1 (hI.2.2.2.rp r1)
    | succ k ih =>
      intro i M' p q f hi hI hk hq h0 h1
      have nb := nbl_tb (b := b) hI.2.1
      rw [hq] at nb
      refine t_X12_readAll_28 (e_X12_readLine (s_X12_letters (ht.offW hI.2.2.2) hI.1 hI.2.1 (fun M1 r1 => z1B (t_X12_readLine_16 (pk_le 14 i (fun z => absurd z (by omega)) (fun _ => z1B ?_))))))
      rw [hq] at r1
      refine s_X12_readCourtLine ht (hI.rp r1 (wE_hi nb.1)) r1.2.1 hk nb (fun e he M2 b1 b2 => z0A (t_X12_readLine_45 (t_X12_readLine_46 ⟨Or.inl rfl, z0B (h0 e (ctL_e he) M2 b1 b2)⟩))) (fun r hr M2 p2 I2 e2 => z1B (t_X12_readLine_41 (t_X12_readLine_46 ⟨Or.inr rfl, z1A ?_⟩)))
      obtain ⟨a1, a2, a3, a4⟩ := (cl_p hk nb).2 r hr
      have r4 := a1.1
      have e0 := ctL_r (k := k) hr
      refine s_X12_blanks (ht.offW I2.2.2.2) I2.1 I2.2.1 (fun M7 r7 => ?_)
      rw [e2] at r7
      have I7 := I2.rp r7 r4
      have t7 := ht.offW I7.2.2.2
      refine (pk_eq r.1 n (fun y => ?_) (fun y => ?_) r7.1 t7.2.1).symm
      · rw [if_pos y] at e0
        rw [nI_1]
        exact h1 _ e0 M7 (i + 1) I7.2.2.1 I7.2.2.2 (by omega)
      · rw [if_neg y] at e0
        refine s_X12_isAt (lo := 59) (hi := 59) rfl rfl (by decide) (by decide) (by decide) t7 r7.1 r4 (fun z1 z2 z3 => z1A (fun M18 e18 => ?_)) (fun z => z0B ?_)
        · have s : sgP b n r.1 59 := ⟨z1, by omega⟩
          rw [if_pos s] at e0
          rw [r7.1, nI_1] at e18
          rw [nI_1]
          exact ih (i + 1) (p := r.1 + 1) (by omega) ⟨by rw [e18, zup_s], z1, by rw [e18, zup_o (by decide)]; exact I7.2.2.1, I7.2.2.2.up0 e18 (by omega)⟩ a3 rfl (fun e he => h0 e (e0.trans he)) (fun g hg => h1 g (e0.trans hg))
        · rw [if_neg (fun a => z ⟨a.1, by omega, by omega⟩)] at e0
          exact h0 _ e0 M7 r7.2.1 I7.2.2.2
  have nb01 := nb0.1
  refine (pk_eq (tb b n 0) n (fun y => ?_) (fun y => ?_) r5.1 t5.2.1).symm
  · exact h1 f (if_pos y) M5 0 I5.2.2.1 I5.2.2.2 (by omega)
  · have e0 : pCourt b n f = pCtL b n 14 (tb b n 0) f := if_neg y
    exact loop 14 0 rfl I5 hk (tb_id nb0) (fun e he => h0 e (e0.trans he)) (fun g hg => h1 g (e0.trans hg))
end COURTR
