/-! ===== couples: the reference's subsets ===== -/
section SUBSETS
variable {E : zEv} {D : Nat} {px : String → zM → Prop} {M : zM} {K : zM → Prop} {f : zRow}
theorem full_tb (n j : Nat) : (2 ^ n - 1).testBit j = true ↔ j < n := by
  rw [Nat.testBit_two_pow_sub_one]
  exact decide_eq_true_iff
theorem two_k (hk : okF f) : 2 ^ kN f ≤ 16 := by
  have hp : 2 ^ kN f ≤ 2 ^ 4 := Nat.pow_le_pow_right (by decide) hk.k.2
  have h8 : (2 : Nat) ^ 4 = 16 := by decide
  omega
theorem s_X2_search {post : zM → Prop} (hr : cR M 61 f) (hk : okF f) (hp : ∀ M', M'.1 56 2 = nI (CS (unF f) (kN f) 0 (2 ^ kN f - 1)).1 → (∀ j, j < kN f → M'.1 57 j = (CS (unF f) (kN f) 0 (2 ^ kN f - 1)).2 j) → cw M' M → post M') : zCv E jX2_search (D + 7) 0 [.ref 56, .ref 61] M post px := by
  have k4 := hk.k.2
  have k16 := two_k hk
  have p0 : 0 < 2 ^ kN f := Nat.two_pow_pos _
  refine e_X2_search (s_fill (n := 4) (by rfl) (by decide) (fun M1 a1 a2 a3 M3 e3 => ?_))
  have w1 : cw M1 M := ⟨fun o _ _ h => a2 o h, a3⟩
  have w3 : cw M3 M := by rw [e3]; exact (cw.up (by omega)).trans w1
  have ed : D + 6 = (D + (4 - kN f)) + kN f + 2 := by omega
  rw [ed]
  refine s_X2_extend hk (kN f) (w := 0) (sum := 0) (m := 0) (S := 2 ^ kN f - 1) (T := fun _ => -1) (b := M3.1 57) (by omega) (w3.cr hk hr) (fun j hj => by rw [e3, zup_o (by decide)]; exact a1 j hj) (fun j => (full_tb _ j).trans ⟨fun y => ⟨Nat.zero_le _, y, rfl⟩, fun y => y.2.1⟩) (by omega) (by rw [e3, zup_s]; rfl) (fun _ _ => rfl) (by omega) (by omega) (fun M5 b1 b2 b3 b4 => hp M5 ?_ (fun j hj => ?_) (b4.trans w3))
  · rw [b2]
    have e : nxM 0 0 (CS (unF f) (kN f) 0 (2 ^ kN f - 1)).1 = (CS (unF f) (kN f) 0 (2 ^ kN f - 1)).1 + 1 := by
      unfold nxM
      rw [if_pos (by omega)]
      omega
    rw [e]
    unfold mI
    rw [if_neg (by omega)]
    rfl
  · rw [b3 j (by omega), if_pos (by omega), mgF, if_pos ((full_tb _ j).mpr hj)]
theorem s_X12_unlike {post : Int32 → zM → Prop} {a b : Nat} (hf : M.1 1 = f) (hk : okF f) (ha : a < kN f) (hb : b < kN f) (hp : post (nI (unF f a b)) M) : zCi E jX12_unlike (D + 2) 0 [.ref 0, .int (nI a), .int (nI b)] M post px := by
  have w5 := hk.w
  refine e_X12_unlike (zup_loop (fun i => w_X12_unlike_5 E (D + 1) post px (nI a) (nI b) (cntI (fun w => ¬ rdF f a (f (29 + 5 * w + 3)) = rdF f b (f (29 + 5 * w + 3))) i) (nI i) M) (wN f) (fun i hi ih => ?_) ?_ 0 (by omega))
  · refine t_X12_unlike_5 (e_X12_witnesses (pk_le (wN f) i (fun z => absurd z (by omega)) (fun _ => s_X12_of (what := 3) (by omega) ?_) (by rw [hf]; exact w5.1)))
    refine s_X12_readBy hf hk ha (s_X12_of (what := 3) (by omega) (s_X12_readBy hf hk hb ?_))
    rw [hf]
    refine ⟨fun z => t_X12_unlike_47 ?_, fun z => t_X12_unlike_47 ?_⟩
    · rw [nI_1, cnt_0 (p := fun w => ¬ rdF f a (f (29 + 5 * w + 3)) = rdF f b (f (29 + 5 * w + 3))) (fun y => y z)]; exact ih
    · rw [nI_1, cnt_y (p := fun w => ¬ rdF f a (f (29 + 5 * w + 3)) = rdF f b (f (29 + 5 * w + 3))) z]; exact ih
  · refine t_X12_unlike_5 (e_X12_witnesses (pk_le (wN f) (wN f) (fun _ => ?_) (fun z => absurd z (by omega)) (by rw [hf]; exact w5.1)))
    rw [cN_I]
    exact hp
def lo (S : Nat) : Nat := if S % 2 = 1 then 0 else if S / 2 % 2 = 1 then 1 else if S / 4 % 2 = 1 then 2 else 3
theorem lo_t : ∀ S : Fin 16, S.val ≠ 0 → S.val.testBit (lo S.val) = true ∧ (∀ j : Fin 4, j.val < lo S.val → S.val.testBit j.val = false) ∧ lo S.val < 4 ∧ (nI S.val ^^^ -1) &&& (nI S.val - 1) = nI (2 ^ lo S.val - 1) ∧ ∀ n : Fin 5, S.val < 2 ^ n.val → lo S.val < n.val := by decide +kernel
theorem lo_f {S n : Nat} (h0 : 0 < S) (hn : n ≤ 4) (h : S < 2 ^ n) : S < 16 ∧ S.testBit (lo S) = true ∧ (∀ j, j < lo S → S.testBit j = false) ∧ lo S < n ∧ (nI S ^^^ -1) &&& (nI S - 1) = nI (2 ^ lo S - 1) := by
  have hp : 2 ^ n ≤ 2 ^ 4 := Nat.pow_le_pow_right (by decide) hn
  have h8 : (2 : Nat) ^ 4 = 16 := by decide
  have l := lo_t ⟨S, by omega⟩ (by show S ≠ 0; omega)
  exact ⟨by omega, l.1, fun j hj => l.2.1 ⟨j, by have q : lo S < 4 := l.2.2.1; omega⟩ hj, l.2.2.2.2 ⟨n, by omega⟩ h, l.2.2.2.1⟩
theorem s_X12_firstOf {post : Int32 → zM → Prop} {S : Nat} (h0 : 0 < S) (h : S < 2 ^ 4) (hp : post (nI (lo S)) M) : zCi E jX12_firstOf (D + 1) 0 [.int (nI S)] M post px := by
  obtain ⟨l1, l2, l3, l4, l5⟩ := lo_f h0 (Nat.le_refl 4) h
  refine e_X12_firstOf (e_J6_numberOfTrailingZeros_0f7a4 ?_)
  rw [l5]
  have c : lo S = 0 ∨ lo S = 1 ∨ lo S = 2 ∨ lo S = 3 := by omega
  rcases c with e | e | e | e <;> rw [e] at hp ⊢
  · exact ⟨fun z => absurd z (by decide), fun _ => fa_post (P := fun y => post y M) (show nI (2 ^ 0 - 1) &&& 32 = nI 0 by decide) hp⟩
  · exact ⟨fun _ => ⟨fun _ => t_J6_numberOfTrailingZeros_0f7a4_34 ⟨fun _ => t_J6_numberOfTrailingZeros_0f7a4_49 ⟨fun _ => t_J6_numberOfTrailingZeros_0f7a4_62 ⟨fun _ => t_J6_numberOfTrailingZeros_0f7a4_74 (fa_post (P := fun y => post y M) (show 1 + zushr (nI (2 ^ 1 - 1)) 1 = nI 1 by decide) hp), fun z => absurd (by decide) z⟩, fun z => absurd (by decide) z⟩, fun z => absurd (by decide) z⟩, fun z => absurd (by decide) z⟩, fun z => absurd (by decide) z⟩
  · exact ⟨fun _ => ⟨fun _ => t_J6_numberOfTrailingZeros_0f7a4_34 ⟨fun _ => t_J6_numberOfTrailingZeros_0f7a4_49 ⟨fun _ => t_J6_numberOfTrailingZeros_0f7a4_62 ⟨fun _ => t_J6_numberOfTrailingZeros_0f7a4_74 (fa_post (P := fun y => post y M) (show 1 + zushr (nI (2 ^ 2 - 1)) 1 = nI 2 by decide) hp), fun z => absurd (by decide) z⟩, fun z => absurd (by decide) z⟩, fun z => absurd (by decide) z⟩, fun z => absurd (by decide) z⟩, fun z => absurd (by decide) z⟩
  · exact ⟨fun _ => ⟨fun _ => t_J6_numberOfTrailingZeros_0f7a4_34 ⟨fun _ => t_J6_numberOfTrailingZeros_0f7a4_49 ⟨fun _ => t_J6_numberOfTrailingZeros_0f7a4_62 ⟨fun z => absurd z (by decide), fun _ => t_J6_numberOfTrailingZeros_0f7a4_74 (fa_post (P := fun y => post y M) (show (1 + 2) + zushr (zushr (nI (2 ^ 3 - 1)) 2) 1 = nI 3 by decide) hp)⟩, fun z => absurd (by decide) z⟩, fun z => absurd (by decide) z⟩, fun z => absurd (by decide) z⟩, fun z => absurd (by decide) z⟩
theorem s_unl_n {post : Int32 → zM → Prop} {S : Nat} (h0 : 0 < S) (h : S < 16) (hp : post (M.1 16 (S - 2 ^ lo S)) M) : zCi E jX12_unlikelyBy (D + 3) 0 [.ref 0, .int (nI S), .int (-1)] M post px := by
  obtain ⟨l1, l2, l3, l4, l5⟩ := lo_f h0 (Nat.le_refl 4) h
  refine e_X12_unlikelyBy (s_X12_firstOf h0 h ⟨fun z => absurd rfl z, fun _ => ?_⟩)
  rw [sub_bit (by omega) (by omega) l2, nI_clamp (Nat.lt_of_le_of_lt (Nat.sub_le _ _) (by omega))]
  exact ⟨pk_in _ _ (Nat.lt_of_le_of_lt (Nat.sub_le _ _) h), hp⟩
theorem s_unl_p {post : Int32 → zM → Prop} {S p : Nat} (hf : M.1 1 = f) (hk : okF f) (h0 : 0 < S) (h : S < 2 ^ kN f) (hpn : p < kN f) (hy : S.testBit p = true → p ≠ lo S → post (nI (unF f (lo S) p) + M.1 16 (S - 2 ^ lo S - 2 ^ p)) M) (hn : ¬ (S.testBit p = true ∧ p ≠ lo S) → post (-1) M) : zCi E jX12_unlikelyBy (D + 3) 0 [.ref 0, .int (nI S), .int (nI p)] M post px := by
  have k4 := hk.k.2
  obtain ⟨l1, l2, l3, l4, l5⟩ := lo_f h0 k4 h
  have s1 : S - 2 ^ lo S < 16 := Nat.lt_of_le_of_lt (Nat.sub_le _ _) l1
  refine e_X12_unlikelyBy (s_X12_firstOf h0 (by omega) ⟨fun _ => ?_, fun z => absurd z (nI_m1 (by omega))⟩)
  rw [sub_bit (S := S) (by omega) (by omega) l2]
  refine s_X12_has ?_
  have hh : zhas (nI (S - 2 ^ lo S)) (nI p) ↔ S.testBit p = true ∧ p ≠ lo S := (has_N (by omega)).trans (sub_tb16 l1 (by omega) l2)
  by_cases c : S.testBit p = true ∧ p ≠ lo S
  · rw [if_pos (hh.mpr c)]
    refine z1B (s_X12_unlike hf hk l4 hpn ?_)
    rw [sub_bit (S := S - 2 ^ lo S) (by omega) (by omega) ((sub_tb16 l1 (by omega) l2).mpr c), nI_clamp (Nat.lt_of_le_of_lt (Nat.sub_le _ _) (by omega))]
    exact ⟨pk_in _ _ (Nat.lt_of_le_of_lt (Nat.sub_le _ _) s1), t_X12_unlikelyBy_60 (hy c.1 c.2)⟩
  · rw [if_neg (fun y => c (hh.mp y))]
    exact z0A (t_X12_unlikelyBy_60 (hn c))
/-! the two ways of counting agree -/
theorem CS_skip (u : Nat → Nat → Nat) (k S : Nat) : ∀ i w, (∀ j, w ≤ j → j < w + i → S.testBit j = false) → CS u (k + i) w S = CS u k (w + i) S
  | 0, w, _ => rfl
  | i + 1, w, h => by
    rw [show k + (i + 1) = (k + i) + 1 by omega, CS, if_neg (by rw [h w (Nat.le_refl _) (by omega)]; decide), CS_skip u k S i (w + 1) (fun j h1 h2 => h j (by omega) (by omega)), show w + 1 + i = w + (i + 1) by omega]
noncomputable abbrev cpF (f : zRow) (S : Nat) : Nat × (Nat → Int32) := CS (unF f) (kN f) 0 S
theorem cpF_lo (hk : okF f) {S : Nat} (h0 : 0 < S) (h : S < 2 ^ kN f) : cpF f S = Lf (CS (unF f) (kN f - lo S - 1) (lo S + 1)) (unF f) (lo S) S (kN f - lo S - 1) := by
  obtain ⟨l1, l2, l3, l4, l5⟩ := lo_f h0 hk.k.2 h
  have e := CS_skip (unF f) (kN f - lo S) S (lo S) 0 (fun j _ h2 => l3 j (by omega))
  rw [Nat.sub_add_cancel (by omega), Nat.zero_add] at e
  show CS (unF f) (kN f) 0 S = _
  rw [e, show kN f - lo S = (kN f - lo S - 1) + 1 by omega, CS, if_pos l2]
  rfl
theorem cpF_in {S a : Nat} (ha : a < kN f) (h : ∀ j, j ≤ a → S.testBit j = false) : CS (unF f) (kN f - a - 1) (a + 1) S = cpF f S := by
  have e := CS_skip (unF f) (kN f - a - 1) S (a + 1) 0 (fun j _ h2 => h j (by omega))
  rw [show kN f - a - 1 + (a + 1) = kN f by omega, Nat.zero_add] at e
  exact e.symm
theorem Lf_ge (c : Nat → Nat × (Nat → Int32)) (u : Nat → Nat → Nat) (w S : Nat) : ∀ j, (opA c w S).1 ≤ (Lf c u w S j).1 ∧ ∀ i, i < j → S.testBit (w + 1 + i) = true → (opB c u w S (w + 1 + i)).1 ≤ (Lf c u w S j).1
  | 0 => ⟨Nat.le_refl _, fun i hi => absurd hi (by omega)⟩
  | j + 1 => by
    obtain ⟨h1, h2⟩ := Lf_ge c u w S j
    rw [Lf]
    by_cases d : S.testBit (w + 1 + j) = true
    · rw [if_pos d, btr_1]
      by_cases e : (Lf c u w S j).1 < (opB c u w S (w + 1 + j)).1
      · rw [if_pos e]
        refine ⟨by omega, fun i hi hb => ?_⟩
        by_cases q : i = j
        · rw [q]; exact Nat.le_refl _
        · have := h2 i (by omega) hb; omega
      · rw [if_neg e]
        refine ⟨h1, fun i hi hb => ?_⟩
        by_cases q : i = j
        · rw [q]; omega
        · exact h2 i (by omega) hb
    · rw [if_neg d]
      refine ⟨h1, fun i hi hb => ?_⟩
      by_cases q : i = j
      · rw [q] at hb; exact absurd hb d
      · exact h2 i (by omega) hb
theorem Lf_sel (c : Nat → Nat × (Nat → Int32)) (u : Nat → Nat → Nat) (w S : Nat) : ∀ j, Lf c u w S j = opA c w S ∨ ∃ i, i < j ∧ S.testBit (w + 1 + i) = true ∧ Lf c u w S j = opB c u w S (w + 1 + i) ∧ (opA c w S).1 < (Lf c u w S j).1 ∧ ∀ i', i' < i → S.testBit (w + 1 + i') = true → (opB c u w S (w + 1 + i')).1 < (Lf c u w S j).1
  | 0 => Or.inl rfl
  | j + 1 => by
    have ih := Lf_sel c u w S j
    obtain ⟨g1, g2⟩ := Lf_ge c u w S j
    rw [Lf]
    by_cases d : S.testBit (w + 1 + j) = true
    · rw [if_pos d]
      by_cases e : (Lf c u w S j).1 < (opB c u w S (w + 1 + j)).1
      · have eb : btr (Lf c u w S j) (opB c u w S (w + 1 + j)) = opB c u w S (w + 1 + j) := if_pos e
        rw [eb]
        exact Or.inr ⟨j, by omega, d, rfl, by omega, fun i' hi hb => by have := g2 i' hi hb; omega⟩
      · have eb : btr (Lf c u w S j) (opB c u w S (w + 1 + j)) = Lf c u w S j := if_neg e
        rw [eb]
        exact ih.imp id (fun ⟨i, h1, h2⟩ => ⟨i, by omega, h2⟩)
    · rw [if_neg d]
      exact ih.imp id (fun ⟨i, h1, h2⟩ => ⟨i, by omega, h2⟩)
end SUBSETS
