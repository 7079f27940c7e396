/-! ===== the class: facts, the law's sum ===== -/
section CLAW
variable {E : zEv} {D : Nat} {px : String → zM → Prop} {M : zM} {f : zRow}
/-- nothing but the law's facts and stack has changed -/
def bv (M' M : zM) : Prop := (∀ o, o ≠ 41 → o ≠ 42 → M'.1 o = M.1 o) ∧ M'.2 = M.2
theorem bv.refl {M : zM} : bv M M := ⟨fun _ _ _ => rfl, rfl⟩
theorem bv.trans {M1 M2 M3 : zM} (h : bv M1 M2) (h2 : bv M2 M3) : bv M1 M3 := ⟨fun o a b => (h.1 o a b).trans (h2.1 o a b), h.2.trans h2.2⟩
theorem bv.up42 {M : zM} {j : Nat} {v : Int32} : bv (zup M 42 j v) M := ⟨fun _ _ ho => zup_o ho, rfl⟩
theorem zIsC.lo {c : Nat} (h : zIsC c) : 61 ≤ c := by
  obtain ⟨i, hi, rfl⟩ := h
  omega
theorem zIsC.hi {c : Nat} (h : zIsC c) : c + 14 ≤ 271 := by
  obtain ⟨i, hi, rfl⟩ := h
  omega
theorem cR_bv {M M' : zM} {c : Nat} (hc : zIsC c) (h : bv M' M) (hk : okF f) (hr : cR M c f) : cR M' c f := by
  have := hc.lo
  exact cR_same (fun o j h1 h2 => ⟨by rw [h.1 o (by omega) (by omega)], by rw [h.2]⟩) hk hr
theorem lawR_bv {M M' : zM} (h : bv M' M) (hr : lawR M 36 f) : lawR M' 36 f :=
  lawR_same rfl (fun _ _ => rfl) (by rw [h.1 36 (by decide) (by decide)]) (fun i j _ _ _ => by rw [h.1 _ (by omega) (by omega)]) (fun j _ => by rw [h.1 _ (by omega) (by omega)]) hr
theorem s_X6_note {post : zM → Prop} {c w : Nat} {x : Int32} (hc : zIsC c) (hr : cR M c f) (hw : w < wN f) (hk : okF f) (hp : ∀ M', (∀ j, j < 11 → M'.1 41 j = factF f (nI j) 0 w x) → bv M' M → post M') : zCv E jX6_note D 0 [.ref 36, .ref c, .int (nI w), .int x] M post px := by
  have hlo := hc.lo
  have w5 := hk.w.2
  obtain ⟨r0, r1, r2, r3, r4, r5⟩ := hr.2.1 w hw
  have hin : vp_in (nI w) 5 := pk_in w _ (by omega)
  have hh : M.1 c 11 = f 7 := hr.1.2.2.2.2.2.2.1
  have h0 : M.1 (c + 1) 6 = f 0 := hr.1.1
  refine e_X6_note hc ⟨hin, fun M3 e3 => ⟨hin, fun M7 e7 => ⟨hin, fun M11 e11 => ⟨hin, fun M15 e15 => ⟨hin, fun M19 e19 M21 e21 M23 e23 M25 e25 => ?_⟩⟩⟩⟩⟩
  rw [nI_clamp (by omega)] at e7 e11 e15 e19 e25 ⊢
  have k3 : ∀ o, o ≠ 41 → M3.1 o = M.1 o := fun o ho => by rw [e3, zup_o ho]
  have k7 : ∀ o, o ≠ 41 → M7.1 o = M.1 o := fun o ho => by rw [e7, zup_o ho, k3 o ho]
  have k11 : ∀ o, o ≠ 41 → M11.1 o = M.1 o := fun o ho => by rw [e11, zup_o ho, k7 o ho]
  have k15 : ∀ o, o ≠ 41 → M15.1 o = M.1 o := fun o ho => by rw [e15, zup_o ho, k11 o ho]
  have k19 : ∀ o, o ≠ 41 → M19.1 o = M.1 o := fun o ho => by rw [e19, zup_o ho, k15 o ho]
  have k21 : ∀ o, o ≠ 41 → M21.1 o = M.1 o := fun o ho => by rw [e21, zup_o ho, k19 o ho]
  have k23 : ∀ o, o ≠ 41 → M23.1 o = M.1 o := fun o ho => by rw [e23, zup_o ho, k21 o ho]
  have k25 : ∀ o, o ≠ 41 → M25.1 o = M.1 o := fun o ho => by rw [e25, zup_o ho, k23 o ho]
  have L25 : M25.2 = M.2 := by rw [e25, zup_L, e23, zup_L, e21, zup_L, e19, zup_L, e15, zup_L, e11, zup_L, e7, zup_L, e3, zup_L]
  rw [k3 _ (by omega), r0] at e7
  rw [k7 _ (by omega), r1] at e11
  rw [k11 _ (by omega), r2] at e15
  rw [k15 _ (by omega), r3] at e19
  rw [k19 _ (by omega), hh] at e21
  rw [r4] at e25 ⊢
  have key : ∀ s8 s9 s10, s8 = factF f 8 0 w x → s9 = factF f 9 0 w x → s10 = factF f 10 0 w x → post (zup (zup (zup M25 41 8 s8) 41 9 s9) 41 10 s10) := fun s8 s9 s10 h8 h9 h10 => by
    refine hp _ (fun j hj => ?_) ⟨fun o h1 h2 => by rw [zup_o h1, zup_o h1, zup_o h1, k25 o h1], L25⟩
    match j, hj with
    | 0, _ => rw [e25, e23, e21, e19, e15, e11, e7, e3]; rfl
    | 1, _ => rw [e25, e23, e21, e19, e15, e11, e7]; rfl
    | 2, _ => rw [e25, e23, e21, e19, e15, e11]; rfl
    | 3, _ => rw [e25, e23, e21, e19, e15]; rfl
    | 4, _ => rw [e25, e23, e21, e19]; rfl
    | 5, _ => rw [e25, e23, e21]; rfl
    | 6, _ => rw [e25, e23]; rfl
    | 7, _ => rw [e25]; rfl
    | 8, _ => exact h8
    | 9, _ => exact h9
    | 10, _ => exact h10
    | j + 11, hj => omega
  have h169 : ∀ s8 s9 s10, s8 = factF f 8 0 w x → s9 = factF f 9 0 w x → s10 = factF f 10 0 w x → w_X6_note_169 E D post px c s10 10 (zup (zup M25 41 8 s8) 41 9 s9) := fun s8 s9 s10 h8 h9 h10 => t_X6_note_169 hc ⟨pk_in 10 _ (by decide), fun M31 e31 => by rw [e31]; exact key s8 s9 s10 h8 h9 h10⟩
  have h140 : ∀ s8 s9, s8 = factF f 8 0 w x → s9 = factF f 9 0 w x → w_X6_note_140 E D post px c (f (29 + 5 * w + 4)) s9 9 (zup M25 41 8 s8) := fun s8 s9 h8 h9 => t_X6_note_140 hc ⟨pk_in 9 _ (by decide), fun M29 e29 => by
    have e0 : M29.1 (c + 1) 6 = f 0 := by rw [e29, zup_o (by omega), zup_o (by omega), k25 _ (by omega), h0]
    rw [e0, e29]
    refine ⟨fun z => t_X6_note_164 hc (h169 s8 s9 1 h8 h9 ?_), fun z => ⟨fun z2 => h169 s8 s9 0 h8 h9 ?_, fun z2 => t_X6_note_164 hc (h169 s8 s9 1 h8 h9 ?_)⟩⟩
    · show 1 = (if f (29 + 5 * w + 4) = 0 ∨ f (29 + 5 * w + 4) = f 0 - 1 then (1 : Int32) else 0)
      rw [if_pos (Or.inl z)]
    · show 0 = (if f (29 + 5 * w + 4) = 0 ∨ f (29 + 5 * w + 4) = f 0 - 1 then (1 : Int32) else 0)
      rw [if_neg (fun q => q.elim z z2)]
    · show 1 = (if f (29 + 5 * w + 4) = 0 ∨ f (29 + 5 * w + 4) = f 0 - 1 then (1 : Int32) else 0)
      rw [if_pos (Or.inr z2)]⟩
  have h116 : ∀ s8, s8 = factF f 8 0 w x → w_X6_note_116 E D post px c (nI w) (f (29 + 5 * w + 4)) s8 8 M25 := fun s8 h8 => t_X6_note_116 hc ⟨pk_in 8 _ (by decide), fun M27 e27 => ⟨hin, by
    have e0 : M27.1 (c + 5) (nI w).toNatClampNeg = f (29 + 5 * w + 3) := by rw [nI_clamp (by omega), e27, zup_o (by omega), k25 _ (by omega), r3]
    rw [e0, e27]
    refine ⟨fun z => h140 s8 0 h8 ?_, fun z => h140 s8 1 h8 ?_⟩
    · show 0 = (if f (29 + 5 * w + 3) < 50 then (0 : Int32) else 1)
      rw [if_pos z]
    · show 1 = (if f (29 + 5 * w + 3) < 50 then (0 : Int32) else 1)
      rw [if_neg z]⟩⟩
  refine ⟨fun z => h116 0 ?_, fun z => h116 1 ?_⟩
  · show 0 = (if x ≤ 0 then (0 : Int32) else 1)
    rw [if_pos z]
  · show 1 = (if x ≤ 0 then (0 : Int32) else 1)
    rw [if_neg z]
theorem s12 {s : Int32} (h : isN s 17) (h2 : ¬ s < 12) : s = 12 ∨ s = 13 ∨ s = 14 ∨ s = 15 ∨ s = 16 ∨ s = 17 := by
  obtain ⟨q, rfl⟩ := i17 h
  revert h2
  exact (by decide +kernel : ∀ q : Fin 18, ¬ nI q.val < 12 → nI q.val = 12 ∨ nI q.val = 13 ∨ nI q.val = 14 ∨ nI q.val = 15 ∨ nI q.val = 16 ∨ nI q.val = 17) q
theorem s11 {s n : Int32} (h : isN s 17) (h2 : s < 12) (hn : isN n 999) : ¬ stepC s n ≤ -20 ∧ -1 - stepC s n < 11 ∧ ((stepC s n < 0 ∧ s < 11 ∧ ∃ q, q < 11 ∧ -1 - stepC s n = nI q ∧ s = nI q) ∨ (¬ stepC s n < 0 ∧ s = 11 ∧ stepC s n = n)) := by
  obtain ⟨q, rfl⟩ := i17 h
  obtain ⟨m, hm, rfl⟩ := hn
  by_cases c : nI q.val < 11
  · have e : stepC (nI q.val) (nI m) = -1 - nI q.val := by unfold stepC; rw [if_pos c]
    rw [e]
    have key := (by decide +kernel : ∀ q : Fin 18, nI q.val < 11 → ¬ -1 - nI q.val ≤ -20 ∧ -1 - (-1 - nI q.val) < 11 ∧ -1 - nI q.val < 0 ∧ q.val < 11 ∧ -1 - (-1 - nI q.val) = nI q.val) q c
    exact ⟨key.1, key.2.1, Or.inl ⟨key.2.2.1, c, q.val, key.2.2.2.1, key.2.2.2.2, rfl⟩⟩
  · have e11 : nI q.val = 11 := by
      revert h2 c
      exact (by decide +kernel : ∀ q : Fin 18, nI q.val < 12 → ¬ nI q.val < 11 → nI q.val = 11) q
    rw [e11]
    have e : stepC 11 (nI m) = nI m := rfl
    rw [e]
    have key := (by decide +kernel : ∀ m : Fin 1000, ¬ nI m.val ≤ -20 ∧ -1 - nI m.val < 11 ∧ ¬ nI m.val < 0) ⟨m, by omega⟩
    exact ⟨key.1, key.2.1, Or.inr ⟨key.2.2, rfl, rfl⟩⟩
theorem and01 {a b : Int32} (ha : a = 0 ∨ a = 1) (hb : b = 0 ∨ b = 1) : a &&& b = opV 16 a b ∧ a ||| b = opV 17 a b := by
  rcases ha with rfl | rfl <;> rcases hb with rfl | rfl <;> decide +kernel
theorem fact_lt {w : Nat} {x s n : Int32} (h : s < 11) (hs : isN s 17) : factF f s n w x = factF f s 0 w x := by
  unfold factF
  obtain ⟨q, rfl⟩ := i17 hs
  have key := (by decide +kernel : ∀ q : Fin 18, nI q.val < 11 → nI q.val = 0 ∨ nI q.val = 1 ∨ nI q.val = 2 ∨ nI q.val = 3 ∨ nI q.val = 4 ∨ nI q.val = 5 ∨ nI q.val = 6 ∨ nI q.val = 7 ∨ nI q.val = 8 ∨ nI q.val = 9 ∨ nI q.val = 10) q h
  rcases key with k | k | k | k | k | k | k | k | k | k | k <;> rw [k] <;> rfl
theorem cl_loop {post : Int32 → zM → Prop} {w l p e : Nat} {x : Int32} {M0 : zM} {R : List Int32} {kz : List Bool} (hl : l < 12) (he : e ≤ 400) (h39 : M0.1 39 l = nI e) (hfac : ∀ j, j < 11 → M0.1 41 j = factF f (nI j) 0 w x) (hc : ∀ i, p ≤ i → i < e → isN (f (421 + 2 * i)) 17 ∧ isN (f (421 + 2 * i + 1)) 999 ∧ M0.1 40 i = stepC (f (421 + 2 * i)) (f (421 + 2 * i + 1))) (hkz : kz = [] ∨ kz = [true]) (hp : ∀ M', (∀ o, o ≠ 42 → M'.1 o = M0.1 o) → M'.2 = M0.2 → post (if R = [] ∨ R = [1] then 1 else 0) M') :
    ∀ (n i : Nat) (st : List Int32) (ks : List Bool) (M : zM), p ≤ i → i + n = e → (∀ o, o ≠ 42 → M.1 o = M0.1 o) → M.2 = M0.2 → ks.length ≤ 30 → kd ks st → stk (M.1 42) st → runK (fun i => f (421 + 2 * i)) n i ks = some kz → runV f w x n i st = R → w_X6_holds_22 E D post px (nI l) (nI st.length) (nI i) M := by
  intro n
  induction n with
  | zero =>
    intro i st ks M hi hn hr hr2 hlen hkd hst hK hV
    have hks : ks = kz := Option.some.inj hK
    have hst' : st = R := hV
    subst hst'
    subst hks
    refine t_X6_holds_22 ⟨pk_in l _ (by omega), pk_le e i (fun _ => ?_) (fun z => absurd z (by omega)) (by rw [nI_clamp (by omega), hr 39 (by decide)]; exact h39)⟩
    rcases hkz with rfl | rfl
    · cases st with
      | cons a r => exact hkd.elim
      | nil => exact ⟨fun _ => t_X6_holds_306 (t_X6_holds_311 ⟨Or.inr rfl, hp M hr hr2⟩), fun z => absurd rfl z⟩
    · cases st with
      | nil => exact hkd.elim
      | cons a r =>
        obtain ⟨k1, k2⟩ := hkd
        cases r with
        | cons a2 r2 => exact k2.elim
        | nil =>
          obtain ⟨s1, s2⟩ := hst
          have s1' : M.1 42 0 = a := s1
          have hq := hp M hr hr2
          rcases k1 rfl with rfl | rfl
          · exact ⟨fun z => absurd z (by decide), fun _ => ⟨fun _ => t_X6_holds_311 ⟨Or.inl rfl, hq⟩, fun z => absurd s1' z⟩⟩
          · exact ⟨fun z => absurd z (by decide), fun _ => ⟨fun z => absurd (s1'.symm.trans z) (by decide), fun _ => t_X6_holds_306 (t_X6_holds_311 ⟨Or.inr rfl, hq⟩)⟩⟩
  | succ n ih =>
    intro i st ks M hi hn hr hr2 hlen hkd hst hK hV
    obtain ⟨hs17, hn999, h40⟩ := hc i hi (by omega)
    have hK2 : (match stepK (f (421 + 2 * i)) ks with | none => none | some st1 => if st1.length ≤ 30 then runK (fun i => f (421 + 2 * i)) n (i + 1) st1 else none) = some kz := hK
    have hV2 : runV f w x n (i + 1) (stepV f w x (f (421 + 2 * i)) (f (421 + 2 * i + 1)) st) = R := hV
    cases hS : stepK (f (421 + 2 * i)) ks with
    | none => rw [hS] at hK2; cases hK2
    | some ks1 =>
      rw [hS] at hK2
      dsimp only at hK2
      by_cases hL : ks1.length ≤ 30
      · rw [if_pos hL] at hK2
        have kd1 := kd_step (f := f) (w := w) (x := x) (n := f (421 + 2 * i + 1)) hkd hS
        have hlen2 := kd_len hkd
        have hlen3 := kd_len kd1
        have next : ∀ j v, stk (upd (M.1 42) j v) (stepV f w x (f (421 + 2 * i)) (f (421 + 2 * i + 1)) st) → w_X6_holds_287 E D post px (nI l) (nI (stepV f w x (f (421 + 2 * i)) (f (421 + 2 * i + 1)) st).length) (nI i) (zup M 42 j v) := fun j v h2 => t_X6_holds_287 (by
          rw [nI_1]
          exact ih (i + 1) _ ks1 _ (by omega) (by omega) (fun o ho => by rw [zup_o ho]; exact hr o ho) hr2 hL kd1 (by rw [zup_row]; exact h2) hK2 hV2)
        refine t_X6_holds_22 ?_
        rw [nI_clamp (n := i) (by omega), show M.1 40 i = _ from (congrFun (hr 40 (by decide)) i).trans h40]
        refine ⟨pk_in l _ (by omega), pk_le e i (fun z => absurd z (by omega)) (fun _ => ⟨pk_in i _ (by omega), ?_⟩) (by rw [nI_clamp (by omega), hr 39 (by decide)]; exact h39)⟩
        generalize f (421 + 2 * i) = s at hs17 hS kd1 next hlen3
        generalize f (421 + 2 * i + 1) = nn at hn999 kd1 next hlen3
        by_cases c12 : s < 12
        · have eV : stepV f w x s nn st = factF f s nn w x :: st := by
            unfold stepV
            rw [if_pos c12]
          rw [eV] at next hlen3
          rw [List.length_cons] at hlen3
          have hll : st.length < 30 := by omega
          obtain ⟨q1, q2, q3⟩ := s11 hs17 c12 hn999
          have h93 : ∀ v, v = factF f s nn w x → w_X6_holds_93 E D post px (nI l) (nI st.length) (nI i) v (nI st.length) M := fun v hv => t_X6_holds_93 ⟨pk_in _ _ hll, fun M3 e3 => by
            rw [nI_clamp (by omega)] at e3
            rw [e3, nI_1, hv]
            exact next _ _ (stk_push hst)⟩
          refine ⟨fun z => absurd z q1, fun _ => ⟨fun z => absurd z (nI_ge hll (by decide)), fun _ => ⟨fun _ => ?_, fun z => absurd q2 z⟩⟩⟩
          rcases q3 with ⟨q4, q5, j, hj, ej, es⟩ | ⟨q4, q5, q6⟩
          · rw [ej, nI_clamp (by omega), hr 41 (by decide), hfac j hj]
            exact ⟨fun _ => ⟨pk_in j _ hj, h93 _ (by rw [fact_lt q5 hs17, es])⟩, fun z => absurd q4 z⟩
          · exact ⟨fun z => absurd z q4, fun _ => h93 _ (by rw [q6, q5]; rfl)⟩
        · by_cases c15 : s = 15
          · obtain ⟨b, r, rfl⟩ := kd_one hkd hS c15
            obtain ⟨sb, sr⟩ := hst
            have eV : stepV f w x s nn (b :: r) = (1 - b) :: r := by
              unfold stepV
              rw [if_neg c12]
              dsimp only
              rw [if_pos c15]
            rw [eV] at next
            have hll : r.length + 1 ≤ 30 := by
              rw [List.length_cons] at hlen2
              omega
            rw [c15, show stepC 15 nn = -20 from rfl]
            rw [show nI (b :: r).length = nI (r.length + 1) from rfl, nI_pred, nI_clamp (n := r.length) (by omega), sb]
            exact ⟨fun _ => ⟨fun z => absurd rfl z, fun _ => ⟨fun _ => ⟨pk_in _ _ (show r.length < 30 by omega), pk_in _ _ (show r.length < 30 by omega), fun M64 e64 => by
              rw [e64]
              exact next _ _ (stk_push sr)⟩, fun z => absurd (nI_le (show 1 ≤ r.length + 1 by omega) (by omega)) z⟩⟩, fun z => absurd (by decide) z⟩
          · obtain ⟨b, a, r, rfl, h01⟩ := kd_two hkd hS c12 c15
            obtain ⟨sb, sa, sr⟩ := hst
            have sb' : M.1 42 (r.length + 1) = b := sb
            have eV : stepV f w x s nn (b :: a :: r) = opV s a b :: r := by
              unfold stepV
              rw [if_neg c12]
              dsimp only
              rw [if_neg c15]
            rw [eV] at next
            have hll : r.length + 1 + 1 ≤ 30 := by
              rw [List.length_cons, List.length_cons] at hlen2
              omega
            rw [show nI (b :: a :: r).length = nI (r.length + 1 + 1) from rfl, pk_m1, nI_pred, nI_clamp (n := r.length) (by omega), nI_clamp (n := r.length + 1) (by omega), sb', sa]
            have i1 : vp_in (nI r.length) 30 := pk_in _ _ (show r.length < 30 by omega)
            have i2 : vp_in (nI (r.length + 1)) 30 := pk_in _ _ (show r.length + 1 < 30 by omega)
            have l2 : (2 : Int32) ≤ nI (r.length + 1 + 1) := nI_le (show 2 ≤ r.length + 1 + 1 by omega) (by omega)
            have nx : ∀ v, v = opV s a b → w_X6_holds_287 E D post px (nI l) (nI (r.length + 1)) (nI i) (zup M 42 r.length v) := fun v hv => by
              rw [hv]
              exact next _ _ (stk_push sr)
            have h254 : ∀ v, v = opV s a b → w_X6_holds_254 E D post px (nI l) (nI (r.length + 1)) (nI i) v (nI r.length) M := fun v hv => t_X6_holds_254 ⟨i1, fun M3 e3 => by
              rw [nI_clamp (by omega)] at e3
              rw [e3]; exact nx v hv⟩
            have h231 : ∀ v, v = opV s a b → w_X6_holds_231 E D post px (nI l) (nI (r.length + 1)) (nI i) v (nI r.length) M := fun v hv => t_X6_holds_231 ⟨i1, fun M3 e3 => by
              rw [nI_clamp (by omega)] at e3
              rw [e3]; exact nx v hv⟩
            rcases s12 hs17 c12 with rfl | rfl | rfl | rfl | rfl | rfl
            · rw [show stepC 12 nn = -21 from rfl]
              exact ⟨fun _ => ⟨fun _ => ⟨fun _ => ⟨i1, i2, fun z => absurd z (by decide), fun _ => ⟨fun z => absurd z (by decide), fun _ => ⟨fun z => absurd z (by decide), fun _ => ⟨fun _ => ⟨i1, fun M5 e5 => by rw [e5]; exact nx _ rfl⟩, fun z => absurd rfl z⟩⟩⟩⟩, fun z => absurd l2 z⟩, fun z => absurd z (by decide)⟩, fun z => absurd (by decide) z⟩
            · rw [show stepC 13 nn = -22 from rfl]
              exact ⟨fun _ => ⟨fun _ => ⟨fun _ => ⟨i1, i2, fun z => absurd z (by decide), fun _ => ⟨fun z => absurd z (by decide), fun _ => ⟨fun _ => ⟨fun z => h231 0 (by show 0 = (if b ≤ a then (0 : Int32) else 1); rw [if_pos z]), fun z => h231 1 (by show 1 = (if b ≤ a then (0 : Int32) else 1); rw [if_neg z])⟩, fun z => absurd rfl z⟩⟩⟩, fun z => absurd l2 z⟩, fun z => absurd z (by decide)⟩, fun z => absurd (by decide) z⟩
            · rw [show stepC 14 nn = -23 from rfl]
              exact ⟨fun _ => ⟨fun _ => ⟨fun _ => ⟨i1, i2, fun z => absurd z (by decide), fun _ => ⟨fun _ => ⟨fun z => h254 0 (by show 0 = (if a ≤ b then (0 : Int32) else 1); rw [if_pos z]), fun z => h254 1 (by show 1 = (if a ≤ b then (0 : Int32) else 1); rw [if_neg z])⟩, fun z => absurd rfl z⟩⟩, fun z => absurd l2 z⟩, fun z => absurd z (by decide)⟩, fun z => absurd (by decide) z⟩
            · exact absurd rfl c15
            · rw [show stepC 16 nn = -24 from rfl]
              have hz := h01 (by decide) (by decide) (by decide)
              exact ⟨fun _ => ⟨fun _ => ⟨fun _ => ⟨i1, i2, fun _ => ⟨i1, fun M5 e5 => by rw [e5]; exact nx _ (and01 hz.1 hz.2).1⟩, fun z => absurd rfl z⟩, fun z => absurd l2 z⟩, fun z => absurd z (by decide)⟩, fun z => absurd (by decide) z⟩
            · rw [show stepC 17 nn = -25 from rfl]
              have hz := h01 (by decide) (by decide) (by decide)
              exact ⟨fun _ => ⟨fun _ => ⟨fun _ => ⟨i1, i2, fun z => absurd z (by decide), fun _ => ⟨fun z => absurd z (by decide), fun _ => ⟨fun z => absurd z (by decide), fun _ => ⟨fun z => absurd z (by decide), fun _ => ⟨i1, fun M5 e5 => by rw [e5]; exact nx _ (and01 hz.1 hz.2).2⟩⟩⟩⟩⟩, fun z => absurd l2 z⟩, fun z => absurd z (by decide)⟩, fun z => absurd (by decide) z⟩
      · rw [if_neg hL] at hK2
        cases hK2
theorem s_X6_holds {post : Int32 → zM → Prop} {w l p e : Nat} {x : Int32} (hl : l < 12) (hL : lawL M 36 f l p e) (hp0 : l = 0 → p = 0) (hp1 : l ≠ 0 → M.1 39 (l - 1) = nI p) (hfac : ∀ j, j < 11 → M.1 41 j = factF f (nI j) 0 w x) (h1 : holdsF f w x l → ∀ M', (∀ o, o ≠ 42 → M'.1 o = M.1 o) → M'.2 = M.2 → post 1 M') (h0 : ¬ holdsF f w x l → ∀ M', (∀ o, o ≠ 42 → M'.1 o = M.1 o) → M'.2 = M.2 → post 0 M') : zCi E jX6_holds D 0 [.ref 36, .int (nI l)] M post px := by
  obtain ⟨a1, a2, a3, a4, a5, a6, a7, a8, a9, a10, a11⟩ := hL
  have hh : holdsF f w x l ↔ (runV f w x (e - p) p [] = [] ∨ runV f w x (e - p) p [] = [1]) := by
    unfold holdsF
    rw [a5, a6, tn_nI (n := p) (by omega), tn_nI (n := e) (by omega)]
  have key : w_X6_holds_22 E D post px (nI l) 0 (nI p) M := by
    refine cl_loop (f := f) (w := w) (x := x) (M0 := M) (p := p) (e := e) (kz := if p < e then [true] else []) (R := runV f w x (e - p) p []) hl a2 a9 hfac a10 ?_ (fun M' hr hr2 => ?_) (e - p) p [] [] M (Nat.le_refl _) (by omega) (fun _ _ => rfl) rfl (by decide) trivial trivial ?_ rfl
    · by_cases c : p < e
      · rw [if_pos c]; exact Or.inr rfl
      · rw [if_neg c]; exact Or.inl rfl
    · by_cases c : holdsF f w x l
      · rw [if_pos (hh.mp c)]; exact h1 c M' hr hr2
      · rw [if_neg (fun z => c (hh.mpr z))]; exact h0 c M' hr hr2
    · by_cases c : p < e
      · rw [if_pos c]; exact a11 c
      · rw [if_neg c, show e - p = 0 by omega]; rfl
  refine e_X6_holds ⟨fun c => ?_, fun c => t_X6_holds_16 ?_⟩
  · have hl0 : l ≠ 0 := fun z => c (by rw [z]; rfl)
    rw [show nI l - 1 = nI (l - 1) from pk_sub (b := 1) (by omega), nI_clamp (by omega), hp1 hl0]
    exact ⟨pk_in _ _ (show l - 1 < 12 by omega), t_X6_holds_16 key⟩
  · have hl0 : l = 0 := (nI_eq (by omega) (by decide)).mp c
    rw [hp0 hl0] at key
    exact key
theorem s_X6_sum {post : Int32 → zM → Prop} {c w : Nat} {which x : Int32} (hc : zIsC c) (hr : cR M c f) (hw : w < wN f) (hk : okF f) (hL : lawR M 36 f) (hp : ∀ M', bv M' M → post (lsumF f which w x) M') : zCi E jX6_sum (D + 1) 0 [.ref 36, .int which, .ref c, .int (nI w), .int x] M post px := by
  refine e_X6_sum hc (s_X6_note (x := x) hc hr hw hk (fun M1 hfac hb => ?_))
  have h36 : M1.1 36 6 = M.1 36 6 := by rw [hb.1 36 (by decide) (by decide)]
  unfold lsumF at hp
  by_cases c5 : f 5 = 1
  · have hL1 := lawR_bv hb hL
    obtain ⟨n, n12, en, en2, ex, hl⟩ := hL1.2 c5
    rw [if_pos c5, en, tn_nI (by omega)] at hp
    have key := zup_loop (fun i => ∀ M', (∀ o, o ≠ 42 → M'.1 o = M1.1 o) → M'.2 = M1.2 → w_X6_sum_14 E D post px c which (sumI (lnF f w x which) i) (nI i) M') n (fun i hi ih M' g1 g2 => ?_) (fun M' g1 g2 => ?_) 0 (by omega) M1 (fun _ _ => rfl) rfl
    · exact key
    · obtain ⟨c1, c2, c3, c4, c5', c6, c7, c8, c9, c10, c11⟩ := hl i hi
      have hL2 : lawL M' 36 f i (if i = 0 then 0 else ex (i - 1)) (ex i) := ⟨c1, c2, c3, c4, c5', c6, by rw [g1 _ (by decide)]; exact c7, by rw [g1 _ (by decide)]; exact c8, by rw [g1 _ (by decide)]; exact c9, fun j h1 h2 => by rw [g1 _ (by decide)]; exact c10 j h1 h2, c11⟩
      refine t_X6_sum_14 hc (pk_le n i (fun z => absurd z (by omega)) (fun _ => ?_) (by rw [g1 36 (by decide)]; exact en2))
      rw [nI_clamp (by omega), show M'.1 37 i = f (373 + 4 * i) by rw [g1 37 (by decide)]; exact c7]
      refine ⟨pk_in i _ (by omega), fun z => t_X6_sum_55 hc ?_, fun z => s_X6_holds (f := f) (w := w) (x := x) (by omega) hL2 (fun q => if_pos q) (fun q => ?_) (fun j hj => by rw [g1 41 (by decide)]; exact hfac j hj) (fun hh M2 g3 g4 => z1B ⟨pk_in i _ (by omega), t_X6_sum_55 hc ?_⟩) (fun hh M2 g3 g4 => z0A (t_X6_sum_55 hc ?_))⟩
      · rw [nI_1, sumI_z (g := lnF f w x which) (lnF_n (fun q => z q.1))]
        exact ih M' g1 g2
      · rw [if_neg q, g1 39 (by decide)]
        exact (hl (i - 1) (by omega)).2.2.2.2.2.2.2.2.1
      · rw [g3 38 (by decide), show M'.1 38 i = f (373 + 4 * i + 1) by rw [g1 38 (by decide)]; exact c8, nI_1, sumI_s (g := lnF f w x which) (lnF_y z hh)]
        exact ih M2 (fun o ho => (g3 o ho).trans (g1 o ho)) (g4.trans g2)
      · rw [nI_1, sumI_z (g := lnF f w x which) (lnF_n (fun q => hh q.2))]
        exact ih M2 (fun o ho => (g3 o ho).trans (g1 o ho)) (g4.trans g2)
    · refine t_X6_sum_14 hc (pk_le n n (fun _ => hp M' ?_) (fun z => absurd z (by omega)) (by rw [g1 36 (by decide)]; exact en2))
      exact ⟨fun o h1 h2 => (g1 o h2).trans (hb.1 o h1 h2), g2.trans hb.2⟩
  · have h0 : f 5 = 0 := by
      rcases isN1 hk.1.2.2.2.2.2.1 with z | z
      · exact z
      · exact absurd z c5
    rw [if_neg c5] at hp
    refine t_X6_sum_14 hc ?_
    rw [h36, hL.1 h0]
    exact ⟨fun _ => hp M1 hb, fun z => absurd (by decide) z⟩
/-- Blush: what a witness falls by -/
theorem s_X1_fallsBy {post : Int32 → zM → Prop} {c w : Nat} (hc : zIsC c) (hr : cR M c f) (hw : w < wN f) (hk : okF f) (hL : lawR M 36 f) (hp : ∀ M', bv M' M → post (10 - f 7 + lsumF f 1 w 0) M') : zCi E jX1_fallsBy (D + 2) 0 [.ref 43, .ref c, .int (nI w)] M post px := by
  refine e_X1_fallsBy hc (s_X6_sum hc hr hw hk hL (fun M' hb => ?_))
  rw [show M.1 c 11 = f 7 from hr.1.2.2.2.2.2.2.1]
  exact hp M' hb
end CLAW
