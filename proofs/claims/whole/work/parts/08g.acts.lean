/-! ===== contracts weakened ===== -/
theorem zQ_mono {l : Launch} {y : MethodName} {S : Spec} {P : Array Value → State → Prop} {E : zEv} {Q Q' : zO → zM → Prop} {mc ms : Nat} {free : Addr → Prop} (h : MetFree l y S P (fun _ _ _ _ _ => True) (vx_Q (zQc E Q) (zXC E Q) mc ms free)) (hq : ∀ o M, Q o M → Q' o M) : MetFree l y S P (fun _ _ _ _ _ => True) (vx_Q (zQc E Q') (zXC E Q') mc ms free) := by
  intro p e a1 a2 a3 s m args below a4 a5 a6 a7
  obtain ⟨n, o, b1, b2, b3, b4⟩ := h p e a1 a2 a3 s m args below a4 a5 a6 a7
  refine ⟨n, o, b1, b2, b3, ?_⟩
  rcases b4 with ⟨⟨v, M, c1, c2, c3⟩, c4⟩ | ⟨q, c1, X, ce, L, ⟨M, c2, c3⟩, c4⟩
  · exact Or.inl ⟨⟨v, M, c1, hq _ _ c2, c3⟩, c4⟩
  · exact Or.inr ⟨q, c1, X, ce, L, ⟨M, hq _ _ c2, c3⟩, c4⟩
theorem zCWi.mono {E : zEv} {J : zJ} {D K : Nat} {args : List Value} {M : zM} {p p' : Int32 → zM → Prop} (h : zCWi E J D K args M p) (hp : ∀ r M', p r M' → p' r M') : zCWi E J D K args M p' := zQ_mono h (fun o M hq => by
  match o, hq with
  | .inl (some (.int r)), hq => exact hp r M hq
  | .inr X, hq => exact hq.elim)
theorem zCi.mono {E : zEv} {J : zJ} {D K : Nat} {args : List Value} {M : zM} {p p' : Int32 → zM → Prop} {px : String → zM → Prop} (h : zCi E J D K args M p px) (hp : ∀ r M', p r M' → p' r M') : zCi E J D K args M p' px := zQ_mono h (fun o M hq => by
  match o, hq with
  | .inl (some (.int r)), hq => exact hp r M hq
  | .inr X, hq => exact hq)
theorem zCv.mono {E : zEv} {J : zJ} {D K : Nat} {args : List Value} {M : zM} {p p' : zM → Prop} {px : String → zM → Prop} (h : zCv E J D K args M p px) (hp : ∀ M', p M' → p' M') : zCv E J D K args M p' px := zQ_mono h (fun o M hq => by
  match o, hq with
  | .inl none, hq => exact hp M hq
  | .inr X, hq => exact hq)
/-- the two sides of a call that may throw: the same code, the same answer, and so on -/
def opR (E : zEv) (JX : zJ) (D : Nat) (as : List Value) (K : zM → Prop) (r : Int32) (M1 : zM) : Prop := ∀ px : String → zM → Prop, zCi E JX D 0 as M1 (fun b M2 => M2.1 0 0 = r ∧ (r = 0 → M2.2 18 0 = b.toInt64) ∧ K M2) px
/-- .. of a call whose answer is true or not -/
def opRb (E : zEv) (JX : zJ) (D : Nat) (as : List Value) (K : zM → Prop) (r : Int32) (M1 : zM) : Prop := ∀ px : String → zM → Prop, zCi E JX D 0 as M1 (fun b M2 => M2.1 0 0 = r ∧ (r = 0 → (b = 0 → M2.2 18 0 = 0) ∧ (¬ b = 0 → M2.2 18 0 = 1)) ∧ K M2) px
section ACT
variable {f : zRow} {E : zEv} {D : Nat} {post : zM → Prop} {px : String → zM → Prop} {M : zM} {K : zM → Prop}
/-- what an act has left, with the court free -/
theorem s_remember (h : Rel M) (hp : ∀ M', (∀ M1, (∀ o j, irr o j = false → (o < 61 ∨ 75 ≤ o) → M1.1 o j = M'.1 o j ∧ M1.2 o j = M'.2 o j) → actC M M1) → (∀ o j, 61 ≤ o → o < 75 → M'.1 o j = M.1 o j ∧ M'.2 o j = M.2 o j) → (∀ j, M'.1 0 j = M.1 0 j ∧ M'.1 1 j = M.1 1 j) → post M') : zCv E jX5_remember (D + 2) 0 [.ref 59, .ref 61] M post px := by
  obtain ⟨n, nx, a1, a2, a3, a4, a5, a6⟩ := h.his
  have hz := zc_lo nx
  refine s_X5_remember a2 a5 (fun M' b1 b2 b3 b4 => hp M' (fun M1 hM => ?_) (fun o j h1 h2 => ?_) (fun j => ?_))
  · have q : ∀ i j, i < 14 → M1.1 (zcourt nx + i) j = M'.1 (zcourt nx + i) j ∧ M1.2 (zcourt nx + i) j = M'.2 (zcourt nx + i) j := fun i j hi => hM _ _ (irr_hi (by omega)) (by omega)
    refine ⟨n, nx, a1, a2, a3, a4, a5, ?_, ?_, ?_, fun o j h1 h2 h3 h4 => ?_⟩
    · rw [(hM 59 2 rfl (by omega)).1]; exact b3
    · rw [(hM 59 1 rfl (by omega)).1, b4, a4]; exact zmin_count a1
    · obtain ⟨d1, d2, d3, ⟨d4, d5⟩, d6, d7, d8, d9, d10⟩ := b1
      exact ⟨fun j h1 h2 => (q 0 j (by decide)).1.trans (d1 j h1 h2), (q 1 _ (by decide)).1.trans d2, fun i j h1 h2 h3 => (q i j (by omega)).1.trans (d3 i j h1 h2 h3), ⟨(q 8 _ (by decide)).1.trans d4, (q 8 _ (by decide)).1.trans d5⟩, fun j hj => (q 9 j (by decide)).2.trans (d6 j hj), fun j hj => (q 10 j (by decide)).1.trans (d7 j hj), fun j hj => (q 11 j (by decide)).1.trans (d8 j hj), fun j hj => (q 12 j (by decide)).1.trans (d9 j hj), fun j hj => (q 13 j (by decide)).1.trans (d10 j hj)⟩
    · obtain ⟨c1, c2⟩ := hM o j h1 h3
      obtain ⟨c3, c4⟩ := b2 o h2 h4
      exact ⟨by rw [c1, c3], by rw [c2, c4]⟩
  · obtain ⟨c3, c4⟩ := b2 o (by omega) (by omega)
    exact ⟨by rw [c3], by rw [c4]⟩
  · exact ⟨by rw [(b2 0 (by decide) (by omega)).1], by rw [(b2 1 (by decide) (by omega)).1]⟩
/-- the reference's half of an act that changes one number -/
theorem s_X12_isNow {post : Int32 → zM → Prop} {i n : Nat} {v : Int32} (hi : i < 372) (hn : n ≤ 12) (h7 : M.1 0 7 = nI n) (hp : ∀ M2, actF M M2 n → M2.1 1 = upd (M.1 1) i v → M2.2 = M.2 → M2.1 0 0 = M.1 0 0 → post (M.1 1 i) M2) : zCi E jX12_isNow (D + 1) 0 [.ref 0, .int (nI i), .int v] M post px := by
  refine e_X12_isNow (s_X12_remembers hn h7 ⟨pk_in i _ (by omega), pk_in i _ (by omega), fun M7 e => ?_⟩)
  rw [nI_clamp (by omega)] at e ⊢
  have w : ∀ j, (rmb M n).1 1 j = M.1 1 j := fun j => by
    unfold rmb
    by_cases c : n = 12
    · rw [if_pos c, zcp_out (Or.inl (by decide)), zcp_out (Or.inl (by decide))]
    · rw [if_neg c, zcp_out (Or.inl (by decide)), zup_o (by decide)]
  have w0 : (rmb M n).1 0 0 = M.1 0 0 := by
    unfold rmb
    by_cases c : n = 12
    · rw [if_pos c, zcp_out (Or.inl (by decide)), zcp_out (Or.inl (by decide))]
    · rw [if_neg c, zcp_out (Or.inl (by decide)), zup_n (Or.inr (by decide))]
  have wL : (rmb M n).2 = M.2 := by
    unfold rmb
    by_cases c : n = 12
    · rw [if_pos c]; rfl
    · rw [if_neg c]; rfl
  rw [w i]
  refine hp M7 (rmb_F hn h7 (fun o j h1 h2 => ?_)) ?_ ?_ ?_
  · rw [e]
    exact ⟨zup_n (by omega), rfl⟩
  · rw [e, zup_row, funext w]
  · rw [e, zup_L, wL]
  · rw [e, zup_n (Or.inl (by decide)), w0]
theorem n7 : ((7 : Int32)).toNatClampNeg = 7 := rfl
abbrev zr (x : Int32) (a b : Nat) : Prop := ¬ x < nI a ∧ x ≤ nI b
theorem zr.get {x : Int32} {a b : Nat} (h : zr x a b) (hb : b < 2 ^ 31) (ha : a < 2 ^ 31) : ∃ n, a ≤ n ∧ n ≤ b ∧ x = nI n := by
  have h0 : ¬ x < 0 := fun z => h.1 (by
    have := nI_toInt ha
    rw [fa_lt] at z ⊢
    have e0 : (0 : Int32).toInt = 0 := rfl
    omega)
  obtain ⟨j, hj, rfl⟩ := nI_of h0
  refine ⟨j, ?_, (nI_leI hj hb).mp h.2, rfl⟩
  have := h.1
  rw [nI_ltI hj ha] at this
  omega
theorem s_in_rg {post : Int32 → zM → Prop} {x : Int32} {a b : Nat} (h0 : zr x a b → post 1 M) (h1 : ¬ zr x a b → post 0 M) : zCi E jX12_in D 0 [.int x, .int (nI a), .int (nI b)] M post px := by
  refine s_X12_in ?_
  by_cases c : zr x a b
  · rw [if_pos ⟨fa_of_nlt c.1, c.2⟩]; exact h0 c
  · rw [if_neg (fun z => c ⟨fun q => by have := z.1; rw [fa_lt] at q; rw [fa_le] at this; omega, z.2⟩)]; exact h1 c
theorem Rel.rem {M : zM} (h : Rel M) : ∃ n, n ≤ 12 ∧ M.1 0 7 = nI n := by
  obtain ⟨n, nx, a1, a2, a3, -⟩ := h.his
  exact ⟨n, a1, a3⟩
/-- where both throw -/
theorem bad_end {r : Int32} {b : Int32} (h : Rel M) (hK : ∀ M', Rel M' → K M') (hr : r ≠ 0) : (zup (zup M 0 0 0) 0 0 r).1 0 0 = r ∧ (r = 0 → (zup (zup M 0 0 0) 0 0 r).2 18 0 = b.toInt64) ∧ K (zup (zup M 0 0 0) 0 0 r) :=
  ⟨zup_s, fun z => absurd z hr, hK _ (h.same ((zpi_up rfl).trans (zpi_up rfl)))⟩
theorem bad_endb {r : Int32} {b : Int32} (h : Rel M) (hK : ∀ M', Rel M' → K M') (hr : r ≠ 0) : (zup (zup M 0 0 0) 0 0 r).1 0 0 = r ∧ (r = 0 → (b = 0 → (zup (zup M 0 0 0) 0 0 r).2 18 0 = 0) ∧ (¬ b = 0 → (zup (zup M 0 0 0) 0 0 r).2 18 0 = 1)) ∧ K (zup (zup M 0 0 0) 0 0 r) :=
  ⟨zup_s, fun z => absurd z hr, hK _ (h.same ((zpi_up rfl).trans (zpi_up rfl)))⟩
theorem m1 {M' : zM} {O J o j : Nat} {v : Int32} {x : Int64} (h : irr o j = false) (hn : ¬ (o = O ∧ j = J)) : (zup (zupL (zup M' O J v) 18 0 x) 0 0 0).1 o j = M'.1 o j ∧ (zup (zupL (zup M' O J v) 18 0 x) 0 0 0).2 o j = M'.2 o j := by
  constructor
  · rw [zup_n, zupL_I, zup_n (by omega)]
    refine Decidable.or_iff_not_imp_left.mpr (fun z q => ?_)
    rw [show o = 0 by omega, q] at h
    cases h
  · rw [zup_L, zupL_n, zup_L]
    refine Or.inl (fun q => ?_)
    rw [q] at h
    cases h
theorem act1 {M' : zM} {O J : Nat} {v : Int32} {x : Int64} (hO : 61 ≤ O) (hO2 : O < 75) (hA : ∀ M1, (∀ o j, irr o j = false → (o < 61 ∨ 75 ≤ o) → M1.1 o j = M'.1 o j ∧ M1.2 o j = M'.2 o j) → actC M M1) (hS : ∀ o j, 61 ≤ o → o < 75 → M'.1 o j = M.1 o j ∧ M'.2 o j = M.2 o j) :
    actC M (zup (zupL (zup M' O J v) 18 0 x) 0 0 0) ∧ (∀ o j, 61 ≤ o → o < 61 + 14 → ¬ (o = O ∧ j = J) → (zup (zupL (zup M' O J v) 18 0 x) 0 0 0).1 o j = M.1 o j) ∧ (∀ j, (zup (zupL (zup M' O J v) 18 0 x) 0 0 0).2 (61 + 9) j = M.2 (61 + 9) j) ∧ (zup (zupL (zup M' O J v) 18 0 x) 0 0 0).1 O J = v := by
  refine ⟨hA _ (fun o j h1 h2 => m1 h1 (by omega)), fun o j h1 h2 h3 => ?_, fun j => ?_, ?_⟩
  · rw [(m1 (irr_now (by omega) (by omega)) h3).1]
    exact (hS o j h1 (by omega)).1
  · show M'.2 _ _ = _
    exact (hS _ j (by decide) (by decide)).2
  · rw [zup_o (by omega), zupL_I, zup_s]
theorem okF.h (hf : okF f) : isN (f 7) 9 := hf.1.2.2.2.2.2.2.2.1
theorem op_heat {x : Int32} (h : Rel M) (hK : ∀ M', Rel M' → K M') : zCWi E jL_heat (D + 4) 1 [.ref 19, .int x, .ref 18] M (opR E jX12_heat (D + 4) [.ref 0, .int x] K) := by
  obtain ⟨n, hn, h7⟩ := h.rem
  by_cases c : zr x 0 9
  · obtain ⟨v, -, hv, rfl⟩ := c.get (by decide) (by decide)
    refine e_L_heat (e_X11_heat ⟨fun z => absurd z c.1, fun _ => ⟨fun _ => s_remember h (fun M' hA hS hW M9 e9 M4 e4 px => ?_), fun z => absurd c.2 z⟩⟩)
    rw [(hS 61 11 (by decide) (by decide)).1, n0] at e4
    subst e9 e4
    obtain ⟨k1, k2, k3, k4⟩ := act1 (O := 61) (J := 11) (v := nI v) (x := (M.1 61 11).toInt64) (by decide) (by decide) hA hS
    refine e_X12_heat (fun M1 e1 => s_in_rg (a := 0) (b := 9) (fun _ => z1A (t_X12_heat_21 (s_throws0 (z0A (s_X12_isNow (i := 7) (by decide) hn ?_ (fun M2 f1 f2 f3 f4 => t_X12_heat_39 ⟨?_, fun _ => ?_, hK _ ?_⟩)))))) (fun z => absurd c z))
    · subst e1
      exact ((m1 rfl (by omega)).1.trans (hW 7).1).trans h7
    · rw [f4, e1]; exact zup_s
    · rw [f3, e1]
      show (zupL (zup M' 61 11 (nI v)) 18 0 (M.1 61 11).toInt64).2 18 0 = (M'.1 1 7).toInt64
      rw [zupL_s, (hW 7).2, h.now.1.2.2.2.2.2.2.1]
    · subst e1
      have hw : (zup (zupL (zup M' 61 11 (nI v)) 18 0 (M.1 61 11).toInt64) 0 0 0).1 1 = M.1 1 := funext fun j => (m1 rfl (by omega)).1.trans (hW j).2
      rw [hw] at f2
      refine h.act k1 (fun n' hn' h7' => ?_) (by rw [f2]; exact ok_heat h.ok (isN.of hv)) (by rw [f2]; exact cr_heat h.ok h.now k2 k3 k4) (by rw [f2]; exact pk_un (by decide))
      rw [show n' = n from (nI_eq (by omega) (by omega)).mp (h7'.symm.trans h7)]
      exact f1
  · have bad : opR E jX12_heat (D + 4) [.ref 0, .int x] K 1 M := fun px => e_X12_heat (fun M1 e1 => s_in_rg (a := 0) (b := 9) (fun z => absurd z c) (fun _ => z0B (t_X12_heat_21 (s_throws1 (z1B (t_X12_heat_39 (by rw [e1]; exact bad_end h hK (by decide))))))))
    exact e_L_heat (e_X11_heat ⟨fun z => t_X11_heat_10 ⟨rfl, bad⟩, fun z => ⟨fun z2 => absurd ⟨z, z2⟩ c, fun _ => t_X11_heat_10 ⟨rfl, bad⟩⟩⟩)
end ACT
