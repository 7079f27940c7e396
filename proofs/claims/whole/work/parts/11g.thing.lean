/-! ===== what no question brings out: dark ===== -/
section DARK
variable {E : zEv} {D : Nat} {px : String → zM → Prop} {M : zM} {K : zM → Prop} {f : zRow}
theorem ptW_s {M1 M2 : zM} {i : Nat} (hk : okF f) (h : ptW M1 f i) (a2 : ∀ s, s < 2 ^ tN f → M2.1 50 (64 * i + s) = nI (ptF f i s)) (a3 : ∀ j, (j < 64 * i ∨ 64 * i + 64 ≤ j) → M2.1 50 j = M1.1 50 j) : ptW M2 f (i + 1) := fun q s hq hs => by
  have t64 := two_t hk
  by_cases c : q = i
  · rw [c]; exact a2 s hs
  · rw [a3 _ (Or.inl (by omega))]; exact h q s (by omega) hs
abbrev hidP (f : zRow) (P : Nat → Nat → Prop) (k S : Nat) : Prop := ∃ a b, P a b ∧ a < b ∧ b < 2 ^ tN f ∧ pdN f a b = S ∧ a.testBit k ≠ b.testBit k
theorem hid_c {P Q : Nat → Nat → Prop} {k S : Nat} (h : ∀ a b, a < b → b < 2 ^ tN f → (P a b ↔ Q a b)) : hidP f P k S ↔ hidP f Q k S :=
  ⟨fun ⟨a, b, h1, h2, h3, h4⟩ => ⟨a, b, (h a b h2 h3).mp h1, h2, h3, h4⟩, fun ⟨a, b, h1, h2, h3, h4⟩ => ⟨a, b, (h a b h2 h3).mpr h1, h2, h3, h4⟩⟩
/-- one pair more, which adds nothing -/
theorem hid_n {a b k S : Nat} (h : a.testBit k ≠ b.testBit k → pdN f a b ≠ S) : hidP f (fun x y => x < a ∨ (x = a ∧ y < b)) k S ↔ hidP f (fun x y => x < a ∨ (x = a ∧ y < b + 1)) k S := by
  refine ⟨fun ⟨x, y, h1, h2⟩ => ⟨x, y, by omega, h2⟩, fun ⟨x, y, h1, h2, h3, h4, h5⟩ => ⟨x, y, ?_, h2, h3, h4, h5⟩⟩
  by_cases c : x = a ∧ y = b
  · obtain ⟨rfl, rfl⟩ := c
    exact absurd h4 (h h5)
  · omega
theorem hid_must (hk : okF f) {k S : Nat} : hidP f (fun x _ => x < 2 ^ tN f) k S ↔ k < tN f ∧ mustF f k S := by
  constructor
  · rintro ⟨a, b, h1, h2, h3, h4, h5⟩
    by_cases ck : k < tN f
    · refine ⟨ck, ?_⟩
      cases ea : a.testBit k
      · cases eb : b.testBit k
        · exact absurd (ea.trans eb.symm) h5
        · exact ⟨b, a, h3, h1, eb, ea, (pd_symm hk).trans h4⟩
      · cases eb : b.testBit k
        · exact ⟨a, b, h1, h3, ea, eb, h4⟩
        · exact absurd (ea.trans eb.symm) h5
    · have hp : 2 ^ tN f ≤ 2 ^ k := Nat.pow_le_pow_right (by decide) (by omega)
      exact absurd ((Nat.testBit_lt_two_pow (by omega)).trans (Nat.testBit_lt_two_pow (by omega)).symm) h5
  · rintro ⟨-, a, b, ha, hb, ea, eb, h4⟩
    have ne : a ≠ b := fun z => by rw [z, eb] at ea; cases ea
    by_cases c : a < b
    · exact ⟨a, b, ha, c, hb, h4, by rw [ea, eb]; decide⟩
    · exact ⟨b, a, hb, by omega, ha, (pd_symm hk).trans h4, by rw [ea, eb]; decide⟩
theorem s_X10_hidden {post : Int32 → zM → Prop} (hr : cR M 61 f) (hk : okF f) (hL : lawR M 36 f) (hp : ∀ M', wl M' M → post (mskF (fun t => mustF f t 0) (tN f)) M') : zCi E jX10_hidden (D + 6) 0 [.ref 48, .ref 43, .ref 61] M post px := by
  have q8 := hk.q
  have t6 := hk.t.2
  have t64 := two_t hk
  have eQ : ∀ M', wl M' M → M'.1 61 7 = nI (qN f) := fun M' w => (cR_wl zc61 w hk hr).1.2.2.1.trans q8.1
  have pairs : ∀ M', ptW M' f (qN f) → wl M' M → w_X10_hidden_28 E (D + 5) post px 0 0 M' := fun M' pw w => by
    have cr := cR_wl zc61 w hk hr
    refine zup_loop (fun a => ∀ H, (∀ k, k < 32 → (bt H k = true ↔ hidP f (fun x _ => x < a) k 0)) → w_X10_hidden_28 E (D + 5) post px H (nI a) M') (2 ^ tN f) (fun a ha ih H hH => ?_) (fun H hH => ?_) 0 (Nat.zero_le _) 0 (fun k hk => ⟨fun z => absurd ((bt_0 k).symm.trans z) (by decide), fun ⟨a, b, h1, _⟩ => absurd h1 (by omega)⟩)
    · refine t_X10_hidden_28 (s_worldCount zc61 cr hk (pk_le (2 ^ tN f) a (fun z => absurd z (by omega)) (fun _ => ?_)))
      rw [nI_1]
      refine zup_loop (fun b => a < b → ∀ H, (∀ k, k < 32 → (bt H k = true ↔ hidP f (fun x y => x < a ∨ (x = a ∧ y < b)) k 0)) → w_X10_hidden_43 E (D + 5) post px H (nI a) (nI b) M') (2 ^ tN f) (fun b hb ihb hab H hH => ?_) (fun hab H hH => ?_) (a + 1) (by omega) (by omega) H (fun k hk => (hH k hk).trans (hid_c (fun x y h1 h2 => by omega)))
      · have h87 : ∀ H', (∀ k, k < 32 → (bt H' k = true ↔ hidP f (fun x y => x < a ∨ (x = a ∧ y < b + 1)) k 0)) → w_X10_hidden_87 E (D + 5) post px H' (nI a) (nI b) M' := fun H' hH' => t_X10_hidden_87 (by rw [nI_1]; exact ihb (by omega) H' hH')
        refine t_X10_hidden_43 (s_worldCount zc61 cr hk (pk_le (2 ^ tN f) b (fun z => absurd z (by omega)) (fun _ => ⟨fun z => h87 H (fun k hk2 => ?_), fun z => ?_⟩)))
        · refine (hH k hk2).trans ⟨fun ⟨x, y, h1, h2⟩ => ⟨x, y, by omega, h2⟩, fun ⟨x, y, h1, h2, h3, h4, h5⟩ => ?_⟩
          by_cases c : x = a ∧ y = b
          · obtain ⟨rfl, rfl⟩ := c
            refine (hH k hk2).mp ?_
            have zz : bt ((nI x ^^^ nI y) &&& (H ^^^ -1)) k = false := by rw [z, bt_0]
            rw [bt_and, bt_xor, bt_xor, bt_nI hk2, bt_nI hk2, bt_m1 hk2] at zz
            cases e1 : bt H k
            · rw [e1] at zz
              cases e2 : x.testBit k <;> cases e3 : y.testBit k <;> rw [e2, e3] at zz h5
              · exact absurd rfl h5
              · cases zz
              · cases zz
              · exact absurd rfl h5
            · rfl
          · exact ⟨x, y, by omega, h2, h3, h4, h5⟩
        · rw [eQ M' w]
          obtain ⟨p1, p2, p3⟩ := pd_eq hk a b
          have pz : nI (pdN f a b) = 0 ↔ pdN f a b = 0 := nI_eq (b := 0) (by omega) (by decide)
          refine s_X10_partedBy hk pw ha hb ⟨fun y => h87 H (fun k hk2 => (hH k hk2).trans (hid_n (fun _ e => y (pz.mpr e)))), fun e0 => h87 _ (fun k hk2 => ?_)⟩
          rw [bt_or, bt_xor, bt_nI hk2, bt_nI hk2, Bool.or_eq_true, hH k hk2]
          constructor
          · rintro (⟨x, y, h1, h2⟩ | h)
            · exact ⟨x, y, by omega, h2⟩
            · refine ⟨a, b, Or.inr ⟨rfl, by omega⟩, hab, hb, pz.mp e0, fun e => ?_⟩
              rw [e] at h
              cases e2 : b.testBit k <;> rw [e2] at h <;> cases h
          · rintro ⟨x, y, h1, h2, h3, h4, h5⟩
            by_cases c : x = a ∧ y = b
            · obtain ⟨rfl, rfl⟩ := c
              refine Or.inr ?_
              cases e2 : x.testBit k <;> cases e3 : y.testBit k <;> rw [e2, e3] at h5
              · exact absurd rfl h5
              · rfl
              · rfl
              · exact absurd rfl h5
            · exact Or.inl ⟨x, y, by omega, h2, h3, h4, h5⟩
      · refine t_X10_hidden_43 (s_worldCount zc61 cr hk (pk_le (2 ^ tN f) (2 ^ tN f) (fun _ => ?_) (fun z => absurd z (by omega))))
        rw [nI_1]
        exact ih H (fun k hk2 => (hH k hk2).trans (hid_c (fun x y h1 h2 => by omega)))
    · refine t_X10_hidden_28 (s_worldCount zc61 cr hk (pk_le (2 ^ tN f) (2 ^ tN f) (fun _ => ?_) (fun z => absurd z (by omega))))
      have e : H = mskF (fun t => mustF f t 0) (tN f) := bt_ext (fun k hk2 => Bool.eq_iff_iff.mpr ((hH k hk2).trans ((hid_must hk).trans (bt_msk (p := fun t => mustF f t 0) (by omega)).symm)))
      rw [e]
      exact hp M' w
  refine e_X10_hidden (zup_loop (fun i => ∀ M', ptW M' f i → wl M' M → w_X10_hidden_2 E (D + 5) post px (nI i) M') (qN f) (fun i hi ih M' a1 a2 => ?_) (fun M' a1 a2 => ?_) 0 (by omega) M (fun q s hq => absurd hq (by omega)) wl.refl)
  · refine t_X10_hidden_2 (pk_le (qN f) i (fun z => absurd z (by omega)) (fun _ => ?_) (eQ M' a2))
    refine s_X10_weigh (cR_wl zc61 a2 hk hr) hk (lawR_wl a2 hL) hi (fun M4 b1 b2 b3 b4 b5 b6 => ?_)
    rw [nI_1]
    exact ih M4 (ptW_s hk a1 b2 b3) (b6.trans a2)
  · exact t_X10_hidden_2 (pk_le (qN f) (qN f) (fun _ => pairs M' a1 a2) (fun z => absurd z (by omega)) (eQ M' a2))
theorem op_dark (h : Rel M) (hK : ∀ M', Rel M' → K M') : zCi E jX11_dark (D + 20) 0 [.ref 19] M (opN E jX12_dark (D + 20) [.ref 0] K) px := by
  have t6 := h.ok.t
  generalize hf : M.1 1 = f at *
  have okf : okF f := hf ▸ h.ok
  have lkf : lawK f := hf ▸ h.lk
  have now : cR M 61 f := hf ▸ h.now
  have lw : lawR M 36 f := hf ▸ h.law
  refine e_X11_dark (s_X10_hidden now okf lw (fun M1 w1 px => e_X12_dark (fun M2 e2 => ?_)))
  have f2 : M2.1 1 = f := by rw [e2, zup_o (by decide), ← hf]; exact zpi_w w1.pi
  refine s_X12_laysWorlds f2 okf lkf (fun M3 hz r3 => ?_)
  refine zup_loop (fun t => ∀ M4, rzW M4 f → rr M4 M2 → w_X12_dark_13 E (D + 19) (fun b M5 => mskF (fun t => mustF f t 0) (tN f) = b ∧ K M5) px (mskF (fun t => mustF f t 0) t) (nI t) M4) (tN f) (fun t ht ih M4 hz4 r4 => ?_) (fun M4 hz4 r4 => ?_) 0 (Nat.zero_le _) M3 hz r3
  · have f4 : M4.1 1 = f := r4.w.trans f2
    refine t_X12_dark_13 (e_X12_things (pk_le (tN f) t (fun z => absurd z (by omega)) (fun _ => s_X12_laysMusts f4 okf hz4 (by omega) (fun M7 h7 o7 l7 => ?_)) (by rw [f4]; exact t6.1)))
    have hz7 : rzW M7 f := fun q s v h1 h2 h3 => by rw [o7 11 (by decide)]; exact hz4 q s v h1 h2 h3
    have r7 : rr M7 M2 := rr.trans ⟨fun o _ _ _ _ ho => o7 o ho, l7⟩ r4
    rw [n0, h7 0 (by decide)]
    refine ⟨fun z => t_X12_dark_43 ?_, fun z => t_X12_dark_43 ?_⟩
    · rw [nI_1, msk_0 (p := fun t => mustF f t 0) (bI_0.mp z)]; exact ih M7 hz7 r7
    · rw [nI_1, msk_y (p := fun t => mustF f t 0) (bI_n0.mp z)]; exact ih M7 hz7 r7
  · have f4 : M4.1 1 = f := r4.w.trans f2
    refine t_X12_dark_13 (e_X12_things (pk_le (tN f) (tN f) (fun _ => ?_) (fun z => absurd z (by omega)) (by rw [f4]; exact t6.1)))
    rw [e2] at r4
    exact n_fin h hK w1.pi r4.ro rfl
end DARK
