/-! ===== the reference: weight, facts, the law's sum ===== -/
theorem sumI_s {g : Nat → Int32} {i : Nat} {v : Int32} (e : g i = v) : sumI g i + v = sumI g (i + 1) := by rw [sumI, e]
theorem orI_s {g : Nat → Int32} {i : Nat} {v : Int32} (e : g i = v) : orI g i ||| v = orI g (i + 1) := by rw [orI, e]
theorem sumI_z {g : Nat → Int32} {i : Nat} (e : g i = 0) : sumI g i = sumI g (i + 1) := by rw [sumI, e, Int32.add_zero]
theorem orI_z {g : Nat → Int32} {i : Nat} (e : g i = 0) : orI g i = orI g (i + 1) := by rw [orI, e, Int32.or_zero]
def wtG (f : zRow) (w : Nat) (said : Int32) (t : Nat) : Int32 := if zhas said (nI t) ∧ zhas (f (54 + 3 * t + 1)) (nI w) then f (54 + 3 * t + 0) else 0
def wtF (f : zRow) (w : Nat) (said : Int32) : Int32 := sumI (wtG f w said) (tN f)
section RLAW
variable {E : zEv} {D : Nat} {post : Int32 → zM → Prop} {px : String → zM → Prop} {M : zM}
theorem s_X12_weightOn {w : Nat} {said : Int32} (hk : okF (M.1 1)) (h : post (wtF (M.1 1) w said) M) : zCi E jX12_weightOn (D + 2) 0 [.ref 0, .int (nI w), .int said] M post px := by
  have t6 := hk.t
  refine e_X12_weightOn (zup_loop (fun i => w_X12_weightOn_5 E (D + 1) post px (nI w) said (sumI (wtG (M.1 1) w said) i) (nI i) M) (tN (M.1 1)) (fun i hi ih => ?_) ?_ 0 (by omega))
  · refine t_X12_weightOn_5 (e_X12_things (pk_le (tN (M.1 1)) i (fun z => absurd z (by omega)) (fun _ => s_X12_has ?_) t6.1))
    by_cases c : zhas said (nI i)
    · rw [if_pos c]
      refine z1B (s_X12_ofThing (what := 1) (by omega) (s_X12_has ?_))
      by_cases c2 : zhas (M.1 1 (54 + 3 * i + 1)) (nI w)
      · rw [if_pos c2]
        refine z1B (s_X12_ofThing (what := 0) (by omega) (t_X12_weightOn_49 ?_))
        rw [nI_1, sumI_s (g := wtG (M.1 1) w said) (if_pos ⟨c, c2⟩)]
        exact ih
      · rw [if_neg c2]
        refine z0A (t_X12_weightOn_48 (t_X12_weightOn_49 ?_))
        rw [nI_1, sumI_s (g := wtG (M.1 1) w said) (if_neg (fun z => c2 z.2))]
        exact ih
    · rw [if_neg c]
      refine z0A (t_X12_weightOn_48 (t_X12_weightOn_49 ?_))
      rw [nI_1, sumI_s (g := wtG (M.1 1) w said) (if_neg (fun z => c z.1))]
      exact ih
  · exact t_X12_weightOn_5 (e_X12_things (pk_le (tN (M.1 1)) (tN (M.1 1)) (fun _ => h) (fun z => absurd z (by omega)) t6.1))
theorem s_X12_isEdge {w : Nat} (hw : w < 5) (h : post (if M.1 1 (29 + 5 * w + 4) = 0 ∨ M.1 1 (29 + 5 * w + 4) = M.1 1 0 - 1 then 1 else 0) M) : zCi E jX12_isEdge (D + 2) 0 [.ref 0, .int (nI w)] M post px := by
  refine e_X12_isEdge (s_X12_of (what := 4) (by omega) ⟨fun c => t_X12_isEdge_24 (t_X12_isEdge_29 ⟨Or.inr rfl, ?_⟩), fun c => s_X12_of (what := 4) (by omega) (e_X12_witnesses ⟨fun c2 => t_X12_isEdge_29 ⟨Or.inl rfl, ?_⟩, fun c2 => t_X12_isEdge_24 (t_X12_isEdge_29 ⟨Or.inr rfl, ?_⟩)⟩)⟩)
  · rw [if_pos (Or.inl c)] at h; exact h
  · rw [if_neg (fun z => z.elim c c2)] at h; exact h
  · rw [if_pos (Or.inr (show M.1 1 (29 + 5 * w + 4) = M.1 1 0 - 1 from c2))] at h; exact h
theorem s_X12_factOf {w : Nat} {s n said : Int32} (hk : okF (M.1 1)) (hw : w < 5) (h : post (factF (M.1 1) s n w (wtF (M.1 1) w said)) M) : zCi E jX12_factOf (D + 3) 0 [.ref 0, .int s, .int n, .int (nI w), .int said] M post px := by
  unfold factF at h
  refine e_X12_factOf ⟨fun c => ?_, fun c0 => ⟨fun c => ?_, fun c1 => ⟨fun c => ?_, fun c2 => ⟨fun c => ?_, fun c3 => ⟨fun c => ?_, fun c4 => ⟨fun c => ?_, fun c5 => ⟨fun c => ?_, fun c6 => ⟨fun c => ?_, fun c7 => ⟨fun c => ?_, fun c8 => ⟨fun c => ?_, fun c9 => ⟨fun c => ?_, fun c10 => ?_⟩⟩⟩⟩⟩⟩⟩⟩⟩⟩⟩
  · rw [if_pos c] at h
    exact h
  · rw [if_neg c0, if_pos c] at h
    exact s_X12_of (what := 0) (by omega) h
  · rw [if_neg c0, if_neg c1, if_pos c] at h
    exact s_X12_of (what := 1) (by omega) h
  · rw [if_neg c0, if_neg c1, if_neg c2, if_pos c] at h
    exact s_X12_of (what := 2) (by omega) h
  · rw [if_neg c0, if_neg c1, if_neg c2, if_neg c3, if_pos c] at h
    exact s_X12_of (what := 3) (by omega) h
  · rw [if_neg c0, if_neg c1, if_neg c2, if_neg c3, if_neg c4, if_pos c] at h
    exact h
  · rw [if_neg c0, if_neg c1, if_neg c2, if_neg c3, if_neg c4, if_neg c5, if_pos c] at h
    exact s_X12_weightOn hk h
  · rw [if_neg c0, if_neg c1, if_neg c2, if_neg c3, if_neg c4, if_neg c5, if_neg c6, if_pos c] at h
    exact s_X12_of (what := 4) (by omega) h
  · rw [if_neg c0, if_neg c1, if_neg c2, if_neg c3, if_neg c4, if_neg c5, if_neg c6, if_neg c7, if_pos c] at h
    refine s_X12_weightOn hk ⟨fun z => t_X12_factOf_128 ?_, fun z => t_X12_factOf_128 ?_⟩
    · rw [if_pos z] at h; exact h
    · rw [if_neg z] at h; exact h
  · rw [if_neg c0, if_neg c1, if_neg c2, if_neg c3, if_neg c4, if_neg c5, if_neg c6, if_neg c7, if_neg c8, if_pos c] at h
    refine s_X12_of (what := 3) (by omega) ⟨fun z => t_X12_factOf_145 ?_, fun z => t_X12_factOf_145 ?_⟩
    · rw [if_pos z] at h; exact h
    · rw [if_neg z] at h; exact h
  · rw [if_neg c0, if_neg c1, if_neg c2, if_neg c3, if_neg c4, if_neg c5, if_neg c6, if_neg c7, if_neg c8, if_neg c9, if_pos c] at h
    refine s_X12_isEdge hw ?_
    by_cases z : M.1 1 (29 + 5 * w + 4) = 0 ∨ M.1 1 (29 + 5 * w + 4) = M.1 1 0 - 1
    · rw [if_pos z] at h ⊢; exact z1B (t_X12_factOf_159 h)
    · rw [if_neg z] at h ⊢; exact z0A (t_X12_factOf_159 h)
  · rw [if_neg c0, if_neg c1, if_neg c2, if_neg c3, if_neg c4, if_neg c5, if_neg c6, if_neg c7, if_neg c8, if_neg c9, if_neg c10] at h
    exact h
/-- nothing but the row of values has changed -/
def rv (M' M : zM) : Prop := (∀ o, o ≠ 8 → M'.1 o = M.1 o) ∧ M'.2 = M.2
theorem rv.refl {M : zM} : rv M M := ⟨fun _ _ => rfl, rfl⟩
theorem rv.trans {M1 M2 M3 : zM} (h : rv M1 M2) (h2 : rv M2 M3) : rv M1 M3 := ⟨fun o ho => (h.1 o ho).trans (h2.1 o ho), h.2.trans h2.2⟩
theorem rv.up {M : zM} {j : Nat} {v : Int32} : rv (zup M 8 j v) M := ⟨fun _ ho => zup_o ho, rfl⟩
theorem rv.w {M' M : zM} (h : rv M' M) : M'.1 1 = M.1 1 := h.1 1 (by decide)
theorem rv.pi {M' M : zM} (h : rv M' M) : zpi M' = zpi M := zpi_of fun o j hi => ⟨by
  rw [h.1 o (by rintro rfl; cases hi)], by rw [h.2]⟩
theorem rl_loop {w l p e : Nat} {said x : Int32} {f : zRow} {M0 : zM} {R : List Int32} {kz : List Bool} (hf : M0.1 1 = f) (hk : okF f) (hw : w < 5) (hx : wtF f w said = x) (hl : l < 12) (he : e ≤ 400) (h3 : f (373 + 4 * l + 3) = nI e) (hc : ∀ i, p ≤ i → i < e → isN (f (421 + 2 * i)) 17) (hkz : kz = [] ∨ kz = [true]) (hp : ∀ M', rv M' M0 → post (if R = [] ∨ R = [1] then 1 else 0) M') :
    ∀ (n i : Nat) (st : List Int32) (ks : List Bool) (M : zM), p ≤ i → i + n = e → rv M M0 → ks.length ≤ 30 → kd ks st → stk (M.1 8) st → runK (fun i => f (421 + 2 * i)) n i ks = some kz → runV f w x n i st = R → w_X12_holdsLine_23 E (D + 3) post px (nI w) said (nI st.length) (nI (373 + 4 * l)) (nI i) M := by
  intro n
  induction n with
  | zero =>
    intro i st ks M hi hn hr hlen hkd hst hK hV
    have hks : ks = kz := Option.some.inj hK
    have hst' : st = R := hV
    subst hst'
    subst hks
    refine t_X12_holdsLine_23 ?_
    rw [show nI (373 + 4 * l) + 3 = nI (373 + 4 * l + 3) from nI_add _ 3]
    refine ⟨pk_in _ _ (show 373 + 4 * l + 3 < 2070 by omega), pk_le e i (fun _ => ?_) (fun z => absurd z (by omega)) (by rw [nI_clamp (by omega), hr.w, hf]; exact h3)⟩
    rcases hkz with rfl | rfl
    · cases st with
      | cons a r => exact hkd.elim
      | nil => exact ⟨fun _ => t_X12_holdsLine_286 (t_X12_holdsLine_291 ⟨Or.inr rfl, hp M hr⟩), fun z => absurd rfl z⟩
    · cases st with
      | nil => exact hkd.elim
      | cons a r =>
        obtain ⟨k1, k2⟩ := hkd
        cases r with
        | cons a2 r2 => exact k2.elim
        | nil =>
          obtain ⟨s1, s2⟩ := hst
          have s1' : M.1 8 0 = a := s1
          have hq := hp M hr
          rcases k1 rfl with rfl | rfl
          · exact ⟨fun z => absurd z (by decide), fun _ => ⟨fun _ => t_X12_holdsLine_291 ⟨Or.inl rfl, hq⟩, fun z => absurd (s1'.symm.trans z) (by decide)⟩⟩
          · exact ⟨fun z => absurd z (by decide), fun _ => ⟨fun z => absurd s1' z, fun _ => t_X12_holdsLine_286 (t_X12_holdsLine_291 ⟨Or.inr rfl, hq⟩)⟩⟩
  | succ n ih =>
    intro i st ks M hi hn hr hlen hkd hst hK hV
    have hm : M.1 1 = f := by rw [hr.w, hf]
    have hs17 := hc i hi (by omega)
    have hK2 : (match stepK (f (421 + 2 * i)) ks with | none => none | some st1 => if st1.length ≤ 30 then runK (fun i => f (421 + 2 * i)) n (i + 1) st1 else none) = some kz := hK
    have hV2 : runV f w x n (i + 1) (stepV f w x (f (421 + 2 * i)) (f (421 + 2 * i + 1)) st) = R := hV
    cases hS : stepK (f (421 + 2 * i)) ks with
    | none => rw [hS] at hK2; cases hK2
    | some ks1 =>
      rw [hS] at hK2
      dsimp only at hK2
      by_cases hL : ks1.length ≤ 30
      · rw [if_pos hL] at hK2
        have kd1 := kd_step (f := f) (w := w) (x := x) (n := f (421 + 2 * i + 1)) hkd hS
        have hlen2 := kd_len hkd
        have next : ∀ M', rv M' M → stk (M'.1 8) (stepV f w x (f (421 + 2 * i)) (f (421 + 2 * i + 1)) st) → w_X12_holdsLine_265 E (D + 3) post px (nI w) said (nI (stepV f w x (f (421 + 2 * i)) (f (421 + 2 * i + 1)) st).length) (nI (373 + 4 * l)) (nI i) M' := fun M' h1 h2 => t_X12_holdsLine_265 (by
          rw [nI_1]
          exact ih (i + 1) _ ks1 M' (by omega) (by omega) (h1.trans hr) hL kd1 h2 hK2 hV2)
        refine t_X12_holdsLine_23 ?_
        rw [show nI (373 + 4 * l) + 3 = nI (373 + 4 * l + 3) from nI_add _ 3, show (421 : Int32) + 2 * nI i = nI (421 + 2 * i) by rw [show (421 : Int32) = nI 421 from rfl, show (2 : Int32) = nI 2 from rfl, pk_mul, nI_add], show nI (421 + 2 * i) + 1 = nI (421 + 2 * i + 1) from nI_1 _, nI_clamp (n := 421 + 2 * i) (by omega), nI_clamp (n := 421 + 2 * i + 1) (by omega), nI_clamp (n := 373 + 4 * l + 3) (by omega), hm]
        refine ⟨pk_in _ _ (show 373 + 4 * l + 3 < 2070 by omega), pk_le e i (fun z => absurd z (by omega)) (fun _ => ⟨pk_in _ _ (show 421 + 2 * i < 2070 by omega), ?_⟩) h3⟩
        generalize f (421 + 2 * i) = s at hs17 hS kd1 next
        generalize f (421 + 2 * i + 1) = nn at kd1 next
        refine ⟨fun c11 => ?_, fun c11 => ?_⟩
        · have c12 : ¬ s < 12 := by
            obtain ⟨q, rfl⟩ := i17 hs17
            revert c11
            exact (by decide +kernel : ∀ q : Fin 18, 11 < nI q.val → ¬ nI q.val < 12) q
          refine ⟨fun c15 => ?_, fun c15 => ?_⟩
          · obtain ⟨b, a, r, rfl, h01⟩ := kd_two hkd hS c12 c15
            obtain ⟨sb, sa, sr⟩ := hst
            have sb' : M.1 8 (r.length + 1) = b := sb
            have eV : stepV f w x s nn (b :: a :: r) = opV s a b :: r := by
              unfold stepV
              rw [if_neg c12]
              dsimp only
              rw [if_neg c15]
            rw [eV] at next
            have hll : r.length + 1 + 1 ≤ 30 := by
              rw [List.length_cons, List.length_cons] at hlen2
              omega
            rw [show nI (b :: a :: r).length = nI (r.length + 1 + 1) from rfl, pk_m1, nI_pred, nI_clamp (n := r.length) (by omega), nI_clamp (n := r.length + 1) (by omega), sb', sa]
            have h264 : ∀ v, v = opV s a b → w_X12_holdsLine_264 E (D + 3) post px (nI w) said (nI (r.length + 1)) (nI (373 + 4 * l)) (nI i) v (nI (r.length + 1) - 1) M := fun v hv => by
              rw [nI_pred]
              refine t_X12_holdsLine_264 ⟨pk_in _ _ (show r.length < 400 by omega), fun M3 e3 => ?_⟩
              rw [nI_clamp (by omega)] at e3
              subst hv e3
              exact next _ rv.up (by rw [zup_row]; exact stk_push sr)
            have h229 : ∀ s0, (s0 = 0 ∨ s0 = 1) → (s ≠ 12 → s0 = opV s a b) → w_X12_holdsLine_229 E (D + 3) post px (nI w) said (nI (r.length + 1)) (nI (373 + 4 * l)) (nI i) s a b s0 M := fun s0 h0 h1 => by
              refine t_X12_holdsLine_229 ⟨fun c => ⟨fun z => ?_, fun z => ?_⟩, fun c => ?_⟩
              · exact h264 0 (z.symm.trans (h1 c))
              · rcases h0 with h0 | h0
                · exact absurd h0 z
                · exact h264 1 (h0.symm.trans (h1 c))
              · refine h264 _ ?_
                unfold opV
                rw [if_pos c]
            refine ⟨pk_in _ _ (show r.length < 400 by omega), pk_in _ _ (show r.length + 1 < 400 by omega), fun c13 => ⟨fun c14 => ⟨fun c16 => ⟨fun z => ?_, fun z => ?_⟩, fun c16 => ⟨fun z => ?_, fun z => ?_⟩⟩, fun c14 => ⟨fun z => ?_, fun z => ?_⟩⟩, fun c13 => ⟨fun z => ?_, fun z => ?_⟩⟩
            · exact h229 0 (Or.inl rfl) (fun c => by unfold opV; rw [if_neg c, if_neg c13, if_neg c14, if_neg c16, if_pos z])
            · exact h229 1 (Or.inr rfl) (fun c => by unfold opV; rw [if_neg c, if_neg c13, if_neg c14, if_neg c16, if_neg z])
            · exact h229 0 (Or.inl rfl) (fun c => by unfold opV; rw [if_neg c, if_neg c13, if_neg c14, if_pos c16, if_neg z])
            · exact h229 1 (Or.inr rfl) (fun c => by unfold opV; rw [if_neg c, if_neg c13, if_neg c14, if_pos c16, if_pos z])
            · exact h229 0 (Or.inl rfl) (fun c => by unfold opV; rw [if_neg c, if_neg c13, if_pos c14, if_pos z])
            · exact h229 1 (Or.inr rfl) (fun c => by unfold opV; rw [if_neg c, if_neg c13, if_pos c14, if_neg z])
            · exact h229 0 (Or.inl rfl) (fun c => by unfold opV; rw [if_neg c, if_pos c13, if_pos z])
            · exact h229 1 (Or.inr rfl) (fun c => by unfold opV; rw [if_neg c, if_pos c13, if_neg z])
          · obtain ⟨b, r, rfl⟩ := kd_one hkd hS c15
            obtain ⟨sb, sr⟩ := hst
            have eV : stepV f w x s nn (b :: r) = (1 - b) :: r := by
              unfold stepV
              rw [if_neg c12]
              dsimp only
              rw [if_pos c15]
            rw [eV] at next
            have hll : r.length + 1 ≤ 30 := by
              rw [List.length_cons] at hlen2
              omega
            rw [show nI (b :: r).length = nI (r.length + 1) from rfl, nI_pred, nI_clamp (n := r.length) (by omega), sb]
            refine ⟨pk_in _ _ (show r.length < 400 by omega), pk_in _ _ (show r.length < 400 by omega), fun M49 e49 => ?_⟩
            subst e49
            exact next _ rv.up (by rw [zup_row]; exact stk_push sr)
        · have c12 : s < 12 := by
            obtain ⟨q, rfl⟩ := i17 hs17
            revert c11
            exact (by decide +kernel : ∀ q : Fin 18, ¬ 11 < nI q.val → nI q.val < 12) q
          have eV : stepV f w x s nn st = factF f s nn w x :: st := by
            unfold stepV
            rw [if_pos c12]
          rw [eV] at next
          refine ⟨pk_in _ _ (show 421 + 2 * i + 1 < 2070 by omega), s_X12_factOf (by rw [hm]; exact hk) hw ⟨pk_in _ _ (show st.length < 400 by omega), fun M58 e58 => ?_⟩⟩
          rw [hm, hx, nI_clamp (by omega)] at e58
          subst e58
          rw [nI_1]
          exact next _ rv.up (by rw [zup_row]; exact stk_push hst)
      · rw [if_neg hL] at hK2
        cases hK2
/-- the law's text, as it may be -/
def lawKL (f : zRow) (l p e : Nat) : Prop := p ≤ e ∧ e ≤ 400 ∧ isN (f (373 + 4 * l)) 2 ∧ isN (f (373 + 4 * l + 1)) 99 ∧ f (373 + 4 * l + 2) = nI p ∧ f (373 + 4 * l + 3) = nI e ∧ (∀ i, p ≤ i → i < e → isN (f (421 + 2 * i)) 17 ∧ isN (f (421 + 2 * i + 1)) 999) ∧ (p < e → runK (fun i => f (421 + 2 * i)) (e - p) p [] = some [true])
def lawK (f : zRow) : Prop := f 5 = 1 → ∃ n : Nat, n ≤ 12 ∧ f 372 = nI n ∧ ∃ en : Nat → Nat, ∀ l, l < n → lawKL f l (if l = 0 then 0 else en (l - 1)) (en l)
theorem lawR.k {M : zM} {b : Nat} {f : zRow} (h : lawR M b f) : lawK f := fun c => by
  obtain ⟨n, a1, a2, a3, en, a4⟩ := h.2 c
  refine ⟨n, a1, a2, en, fun l hl => ?_⟩
  obtain ⟨c1, c2, c3, c4, c5, c6, c7, c8, c9, c10, c11⟩ := a4 l hl
  exact ⟨c1, c2, c3, c4, c5, c6, fun i h1 h2 => ⟨(c10 i h1 h2).1, (c10 i h1 h2).2.1⟩, c11⟩
/-- a line of the law holds -/
def holdsF (f : zRow) (w : Nat) (x : Int32) (l : Nat) : Prop := runV f w x (tn (f (373 + 4 * l + 3)) - tn (f (373 + 4 * l + 2))) (tn (f (373 + 4 * l + 2))) [] = [] ∨ runV f w x (tn (f (373 + 4 * l + 3)) - tn (f (373 + 4 * l + 2))) (tn (f (373 + 4 * l + 2))) [] = [1]
noncomputable def lnF (f : zRow) (w : Nat) (x which : Int32) (l : Nat) : Int32 := @ite _ (f (373 + 4 * l) = which ∧ holdsF f w x l) (Classical.propDecidable _) (f (373 + 4 * l + 1)) 0
noncomputable def lsumF (f : zRow) (which : Int32) (w : Nat) (x : Int32) : Int32 := if f 5 = 1 then sumI (lnF f w x which) (tn (f 372)) else 0
theorem lnF_y {f : zRow} {w l : Nat} {x which : Int32} (h : f (373 + 4 * l) = which) (h2 : holdsF f w x l) : lnF f w x which l = f (373 + 4 * l + 1) := if_pos ⟨h, h2⟩
theorem lnF_n {f : zRow} {w l : Nat} {x which : Int32} (h : ¬ (f (373 + 4 * l) = which ∧ holdsF f w x l)) : lnF f w x which l = 0 := if_neg h
theorem s_X12_holdsLine {w l p e : Nat} {said : Int32} (hk : okF (M.1 1)) (hw : w < 5) (hl : l < 12) (hL : lawKL (M.1 1) l p e) (h1 : holdsF (M.1 1) w (wtF (M.1 1) w said) l → ∀ M', rv M' M → post 1 M') (h0 : ¬ holdsF (M.1 1) w (wtF (M.1 1) w said) l → ∀ M', rv M' M → post 0 M') : zCi E jX12_holdsLine (D + 4) 0 [.ref 0, .int (nI l), .int (nI w), .int said] M post px := by
  obtain ⟨a1, a2, a3, a4, a5, a6, a7, a8⟩ := hL
  refine e_X12_holdsLine ?_
  rw [show (373 : Int32) + 4 * nI l = nI (373 + 4 * l) by rw [show (373 : Int32) = nI 373 from rfl, show (4 : Int32) = nI 4 from rfl, pk_mul, nI_add], show nI (373 + 4 * l) + 2 = nI (373 + 4 * l + 2) from nI_add _ 2, nI_clamp (by omega), a5]
  refine ⟨pk_in _ _ (show 373 + 4 * l + 2 < 2070 by omega), ?_⟩
  have hh : holdsF (M.1 1) w (wtF (M.1 1) w said) l ↔ (runV (M.1 1) w (wtF (M.1 1) w said) (e - p) p [] = [] ∨ runV (M.1 1) w (wtF (M.1 1) w said) (e - p) p [] = [1]) := by
    unfold holdsF
    rw [a5, a6, tn_nI (n := p) (by omega), tn_nI (n := e) (by omega)]
  refine rl_loop (M0 := M) (p := p) (e := e) (kz := if p < e then [true] else []) (R := runV (M.1 1) w (wtF (M.1 1) w said) (e - p) p []) rfl hk hw rfl hl a2 a6 (fun i hi hi2 => (a7 i hi hi2).1) ?_ (fun M' hr => ?_) (e - p) p [] [] M (Nat.le_refl _) (by omega) rv.refl (by decide) trivial trivial ?_ rfl
  · by_cases c : p < e
    · rw [if_pos c]; exact Or.inr rfl
    · rw [if_neg c]; exact Or.inl rfl
  · by_cases c : holdsF (M.1 1) w (wtF (M.1 1) w said) l
    · rw [if_pos (hh.mp c)]; exact h1 c M' hr
    · rw [if_neg (fun z => c (hh.mpr z))]; exact h0 c M' hr
  · by_cases c : p < e
    · rw [if_pos c]; exact a8 c
    · rw [if_neg c, show e - p = 0 by omega]; rfl
theorem s_X12_sumOf {w : Nat} {which said : Int32} (hk : okF (M.1 1)) (hL : lawK (M.1 1)) (hw : w < 5) (hp : ∀ M', rv M' M → post (lsumF (M.1 1) which w (wtF (M.1 1) w said)) M') : zCi E jX12_sumOf (D + 5) 0 [.ref 0, .int which, .int (nI w), .int said] M post px := by
  refine e_X12_sumOf ?_
  unfold lsumF at hp
  by_cases c5 : M.1 1 5 = 1
  · obtain ⟨n, n12, en, ex, hl⟩ := hL c5
    rw [if_pos c5, en, tn_nI (by omega)] at hp
    have key := zup_loop (fun i => ∀ M', rv M' M → w_X12_sumOf_6 E (D + 4) post px which (nI w) said (sumI (lnF (M.1 1) w (wtF (M.1 1) w said) which) i) (nI i) M') n (fun i hi ih M' hr => ?_) (fun M' hr => ?_) 0 (by omega) M rv.refl
    · exact key
    · have hm := hr.w
      refine t_X12_sumOf_6 ⟨fun z => absurd (by rw [hm]; exact c5) z, fun _ => pk_le n i (fun z => absurd z (by omega)) (fun _ => ?_) (by rw [hm]; exact en)⟩
      rw [show (373 : Int32) + 4 * nI i = nI (373 + 4 * i) by rw [show (373 : Int32) = nI 373 from rfl, show (4 : Int32) = nI 4 from rfl, pk_mul, nI_add], show nI (373 + 4 * i) + 1 = nI (373 + 4 * i + 1) from nI_1 _, nI_clamp (n := 373 + 4 * i) (by omega), nI_clamp (n := 373 + 4 * i + 1) (by omega), hm]
      refine ⟨pk_in _ _ (show 373 + 4 * i < 2070 by omega), fun z => t_X12_sumOf_77 ?_, fun z => s_X12_holdsLine (by rw [hm]; exact hk) hw (by omega) (by rw [hm]; exact hl i hi) (fun hh M2 hr2 => z1B ⟨pk_in _ _ (show 373 + 4 * i + 1 < 2070 by omega), t_X12_sumOf_77 ?_⟩) (fun hh M2 hr2 => z0A (t_X12_sumOf_77 ?_))⟩
      · rw [nI_1, sumI_z (g := lnF (M.1 1) w (wtF (M.1 1) w said) which) (lnF_n (fun q => z q.1))]
        exact ih M' hr
      · rw [hm] at hh
        rw [nI_1, hr2.w, hm, sumI_s (g := lnF (M.1 1) w (wtF (M.1 1) w said) which) (lnF_y z hh)]
        exact ih M2 (hr2.trans hr)
      · rw [hm] at hh
        rw [nI_1, sumI_z (g := lnF (M.1 1) w (wtF (M.1 1) w said) which) (lnF_n (fun q => hh q.2))]
        exact ih M2 (hr2.trans hr)
    · have hm := hr.w
      exact t_X12_sumOf_6 ⟨fun z => absurd (by rw [hm]; exact c5) z, fun _ => pk_le n n (fun _ => t_X12_sumOf_83 (hp M' hr)) (fun z => absurd z (by omega)) (by rw [hm]; exact en)⟩
  · rw [if_neg c5] at hp
    exact t_X12_sumOf_6 ⟨fun _ => t_X12_sumOf_83 (hp M rv.refl), fun z => absurd z c5⟩
noncomputable def ownF (f : zRow) (w : Nat) (said : Int32) : Int32 := if wtF f w said = 0 then 0 else zmax 0 (wtF f w said * f (29 + 5 * w + 0) + f (29 + 5 * w + 1) + lsumF f 0 w (wtF f w said) - f (29 + 5 * w + 2))
noncomputable def passF (f : zRow) (w : Nat) (said : Int32) : Int32 := if f 5 = 0 then 50 else zmin 99 (lsumF f 2 w (wtF f w said))
noncomputable def fallF (f : zRow) (w : Nat) : Int32 := 10 - f 7 + lsumF f 1 w (wtF f w 0)
theorem s_X12_ownOf {w : Nat} {said : Int32} (hk : okF (M.1 1)) (hL : lawK (M.1 1)) (hw : w < 5) (hp : ∀ M', rv M' M → post (ownF (M.1 1) w said) M') : zCi E jX12_ownOf (D + 6) 0 [.ref 0, .int (nI w), .int said] M post px := by
  unfold ownF at hp
  refine e_X12_ownOf (s_X12_weightOn hk ⟨fun c => s_X12_of (what := 0) (by omega) (s_X12_of (what := 1) (by omega) (s_X12_sumOf hk hL hw (fun M' hr => s_X12_of (what := 2) (by omega) (t_X12_ownOf_49 ?_)))), fun c => t_X12_ownOf_49 ?_⟩)
  · rw [if_neg c] at hp
    rw [hr.w]
    exact hp M' hr
  · rw [if_pos c] at hp
    exact hp M rv.refl
theorem s_X12_fallsBy {w : Nat} (hk : okF (M.1 1)) (hL : lawK (M.1 1)) (hw : w < 5) (hp : ∀ M', rv M' M → post (fallF (M.1 1) w) M') : zCi E jX12_fallsBy (D + 6) 0 [.ref 0, .int (nI w)] M post px :=
  e_X12_fallsBy (s_X12_sumOf hk hL hw (fun M' hr => hp M' hr))
theorem s_X12_passesOn {w : Nat} {said : Int32} (hk : okF (M.1 1)) (hL : lawK (M.1 1)) (hw : w < 5) (hp : ∀ M', rv M' M → post (passF (M.1 1) w said) M') : zCi E jX12_passesOn (D + 6) 0 [.ref 0, .int (nI w), .int said] M post px := by
  unfold passF at hp
  refine e_X12_passesOn ⟨fun c => s_X12_sumOf hk hL hw (fun M' hr => t_X12_passesOn_26 ?_), fun c => t_X12_passesOn_26 ?_⟩
  · rw [if_neg (show ¬ M.1 1 5 = 0 from c)] at hp
    exact hp M' hr
  · rw [if_pos (show M.1 1 5 = 0 from c)] at hp
    exact hp M rv.refl
end RLAW
