/-! ===== couples: what the search finds ===== -/
section SEARCH
variable {E : zEv} {px : String → zM → Prop} {K : zM → Prop} {f : zRow}
theorem sub_tb16 {S i j : Nat} (hS : S < 16) (hi : i < 4) (h : S.testBit i = true) : (S - 2 ^ i).testBit j = true ↔ S.testBit j = true ∧ j ≠ i := by
  by_cases c : j < 8
  · rw [sub_tb (by omega) (by omega) c h, Bool.and_eq_true]
    simp
  · rw [hi8 (T := S - 2 ^ i) (Nat.lt_of_le_of_lt (Nat.sub_le _ _) (by omega)) (by omega), hi8 (T := S) (by omega) (by omega)]
    simp
theorem nx_nx {m sum a u c : Nat} : nxM (nxM m sum a) (sum + u) c = nxM m sum (if a < u + c then u + c else a) := by
  unfold nxM
  by_cases h : a < u + c
  · rw [if_pos h]
    by_cases h1 : m < sum + a + 1
    · rw [if_pos h1, if_pos (by omega), if_pos (by omega)]; omega
    · rw [if_neg h1]
      by_cases h2 : m < sum + u + c + 1
      · rw [if_pos h2, if_pos (by omega)]; omega
      · rw [if_neg h2, if_neg (by omega)]
  · rw [if_neg h]
    by_cases h1 : m < sum + a + 1
    · rw [if_pos h1, if_neg (by omega)]
    · rw [if_neg h1, if_neg (by omega)]
theorem btr_1 {a b : Nat × (Nat → Int32)} : (btr a b).1 = if a.1 < b.1 then b.1 else a.1 := by
  unfold btr
  by_cases c : a.1 < b.1
  · rw [if_pos c, if_pos c]
  · rw [if_neg c, if_neg c]
theorem s_X2_extend (hk : okF f) (k : Nat) : ∀ {D : Nat} {M : zM} {post : zM → Prop} {w sum m S : Nat} {T b : Nat → Int32}, w + k = kN f → cR M 61 f → (∀ j, j < 4 → M.1 58 j = T j) → (∀ j, S.testBit j = true ↔ w ≤ j ∧ j < kN f ∧ T j = -1) → S < 16 → M.1 56 2 = mI m → (∀ j, j < 4 → M.1 57 j = b j) → sum + 5 * k ≤ 100 → m ≤ 200 → (∀ M', (∀ j, j < 4 → M'.1 58 j = T j) → M'.1 56 2 = mI (nxM m sum (CS (unF f) k w S).1) → (∀ j, j < 4 → M'.1 57 j = if m < sum + (CS (unF f) k w S).1 + 1 then mgF T (CS (unF f) k w S).2 S j else b j) → cw M' M → post M') → zCv E jX2_extend (D + k + 2) 0 [.ref 56, .ref 61, .int (nI w), .int (nI sum)] M post px := by
  induction k with
  | zero =>
    intro D M post w sum m S T b hw hr hT hS hS16 h56 h57 hs hm hp
    have k4 := hk.k
    have e8 : M.1 61 8 = nI (kN f) := hr.1.2.2.2.1.trans k4.1
    have S0 : ∀ j, S.testBit j = false := fun j => Bool.eq_false_iff.mpr (fun y => by have := (hS j).mp y; omega)
    show zCv E jX2_extend ((D + 1) + 1) 0 [.ref 56, .ref 61, .int (nI w), .int (nI sum)] M post px
    refine e_X2_extend ?_
    rw [e8, h56]
    refine pk_lt w (kN f) (fun z => absurd z (by omega)) (fun _ => ⟨fun z => t_X2_extend_35 (hp M hT ?_ (fun j hj => ?_) cw.refl), fun z M14 e14 M16 e16 => t_X2_extend_35 (hp M16 (fun j hj => ?_) ?_ (fun j hj => ?_) ⟨fun o h1 h2 h3 => by rw [e16, zrow_o h2, e14, zup_o h1], by rw [e16, e14]; rfl⟩)⟩)
    · have := (mI_le (by omega) (by omega)).mp z
      rw [h56]
      show mI m = mI (nxM m sum 0)
      unfold nxM
      rw [if_neg (by omega)]
    · have := (mI_le (by omega) (by omega)).mp z
      show M.1 57 j = if m < sum + 0 + 1 then mgF T (fun _ => -1) S j else b j
      rw [if_neg (show ¬ m < sum + 0 + 1 by omega)]
      exact h57 j hj
    · rw [e16, zrow_o (by decide), e14, zup_o (by decide)]; exact hT j hj
    · have : ¬ sum < m := fun y => z ((mI_le (by omega) (by omega)).mpr y)
      rw [e16, zrow_o (by decide), e14, zup_s]
      show nI sum = mI (nxM m sum 0)
      have e : nxM m sum 0 = sum + 1 := if_pos (by omega)
      rw [e]
      unfold mI
      rw [if_neg (by omega)]
      rfl
    · have : ¬ sum < m := fun y => z ((mI_le (by omega) (by omega)).mpr y)
      show M16.1 57 j = if m < sum + 0 + 1 then mgF T (fun _ => -1) S j else b j
      rw [if_pos (show m < sum + 0 + 1 by omega), mgF, S0 j, if_neg (by decide)]
      rw [e16, zrow_row, n0, show ((4 : Int32)).toNatClampNeg = 4 from rfl, pk_cpy_in (by omega) (by omega), show 0 + (j - 0) = j by omega, e14, zup_o (by decide)]
      exact hT j hj
  | succ k ih0 =>
    intro D M post w sum m S T b hw hr hT hS hS16 h56 h57 hs hm hp
    have k4 := hk.k
    have e8 : ∀ M', cw M' M → M'.1 61 8 = nI (kN f) := fun M' c => (c.cr hk hr).1.2.2.2.1.trans k4.1
    have ih := @ih0 D
    have cl := lt_sum hk k
    show zCv E jX2_extend ((D + k + 2) + 1) 0 [.ref 56, .ref 61, .int (nI w), .int (nI sum)] M post px
    refine e_X2_extend ?_
    rw [e8 M cw.refl, nI_1, nI_clamp (n := w) (by omega)]
    refine pk_lt w (kN f) (fun _ => ?_) (fun z => absurd z (by omega))
    by_cases cS : S.testBit w = true
    · have Tw : T w = -1 := ((hS w).mp cS).2.2
      have eC : CS (unF f) (k + 1) w S = Lf (CS (unF f) k (w + 1)) (unF f) w S k := by rw [CS, if_pos cS]
      have l1 : S - 2 ^ w < 16 := Nat.lt_of_le_of_lt (Nat.sub_le _ _) hS16
      have S1 : ∀ j, (S - 2 ^ w).testBit j = true ↔ S.testBit j = true ∧ j ≠ w := fun j => sub_tb16 hS16 (by omega) cS
      refine ih (w := w + 1) (sum := sum) (S := S - 2 ^ w) (by omega) hr hT (fun j => ?_) l1 h56 h57 (by omega) hm (fun M4 g1 g2 g3 g4 => ⟨pk_in w _ (by omega), fun _ => ?_, fun z => absurd ((g1 w (by omega)).trans Tw) z⟩)
      · rw [S1 j, hS j]
        constructor
        · rintro ⟨⟨a1, a2, a3⟩, a4⟩; exact ⟨by omega, a2, a3⟩
        · rintro ⟨a1, a2, a3⟩; exact ⟨⟨by omega, a2, a3⟩, by omega⟩
      · refine zup_loop (fun j => ∀ M', (∀ i, i < 4 → M'.1 58 i = T i) → M'.1 56 2 = mI (nxM m sum (Lf (CS (unF f) k (w + 1)) (unF f) w S j).1) → (∀ i, i < 4 → M'.1 57 i = if m < sum + (Lf (CS (unF f) k (w + 1)) (unF f) w S j).1 + 1 then mgF T (Lf (CS (unF f) k (w + 1)) (unF f) w S j).2 S i else b i) → (Lf (CS (unF f) k (w + 1)) (unF f) w S j).1 ≤ 5 * (k + 1) → cw M' M → w_X2_extend_61 E (D + k + 2) post px (nI w) (nI sum) (nI (w + 1 + j)) M') k (fun j hj ihj M' b1 b2 b3 b4 b5 => ?_) (fun M' b1 b2 b3 b4 b5 => ?_) 0 (Nat.zero_le _) M4 g1 g2 (fun i hi => ?_) (Nat.le_trans (cl _ _) (by omega)) g4
        · have cr := b5.cr hk hr
          refine t_X2_extend_61 (pk_le (kN f) (w + 1 + j) (fun z => absurd z (by omega)) (fun _ => ⟨pk_in (w + 1 + j) _ (by omega), ?_⟩) (e8 M' b5))
          rw [nI_clamp (n := w + 1 + j) (by omega), nI_clamp (n := w) (by omega), b1 _ (by omega)]
          have So : S.testBit (w + 1 + j) = true ↔ T (w + 1 + j) = -1 := (hS _).trans ⟨fun y => y.2.2, fun y => ⟨by omega, by omega, y⟩⟩
          refine ⟨fun z => t_X2_extend_129 ?_, fun z => ⟨pk_in w _ (by omega), fun M11 e11 => ⟨pk_in (w + 1 + j) _ (by omega), fun M15 e15 => ?_⟩⟩⟩
          · have eL : Lf (CS (unF f) k (w + 1)) (unF f) w S (j + 1) = Lf (CS (unF f) k (w + 1)) (unF f) w S j := by rw [Lf, if_neg (fun y => z (So.mp y))]
            rw [nI_1]
            rw [eL] at ihj
            exact ihj M' b1 b2 b3 b4 b5
          · have oS := So.mpr z
            have eL : Lf (CS (unF f) k (w + 1)) (unF f) w S (j + 1) = btr (Lf (CS (unF f) k (w + 1)) (unF f) w S j) (opB (CS (unF f) k (w + 1)) (unF f) w S (w + 1 + j)) := by rw [Lf, if_pos oS]
            rw [eL] at ihj
            generalize hLa : Lf (CS (unF f) k (w + 1)) (unF f) w S j = La at *
            generalize ho : w + 1 + j = o at *
            have u5 := un_le hk (a := w) (b := o)
            have w15 : cw M15 M := by rw [e15, e11]; exact (cw.up (by omega)).trans ((cw.up (by omega)).trans b5)
            have S2 : ∀ i, (S - 2 ^ w - 2 ^ o).testBit i = true ↔ S.testBit i = true ∧ i ≠ w ∧ i ≠ o := fun i => by
              rw [sub_tb16 (S := S - 2 ^ w) l1 (by omega) ((S1 o).mpr ⟨oS, by omega⟩), S1 i]
              exact ⟨fun y => ⟨y.1.1, y.1.2, y.2⟩, fun y => ⟨⟨y.1, y.2.1⟩, y.2.2⟩⟩
            have T15 : ∀ i, i < 4 → M15.1 58 i = tU (tU T w (nI o)) o (nI w) i := fun i hi => by
              unfold tU
              by_cases c1 : i = o
              · rw [if_pos c1, e15, c1, zup_s]
              · rw [if_neg c1, e15, zup_n (Or.inr c1), e11]
                by_cases c2 : i = w
                · rw [if_pos c2, c2, zup_s]
                · rw [if_neg c2, zup_n (Or.inr c2)]; exact b1 i hi
            have cl2 := cl (w + 1) (S - 2 ^ w - 2 ^ o)
            refine s_X2_unlike (w15.cr hk hr) hk (by omega) (by omega) ?_
            rw [nI_1, nI_add]
            refine ih (w := w + 1) (sum := sum + unF f w o) (S := S - 2 ^ w - 2 ^ o) (T := tU (tU T w (nI o)) o (nI w)) (m := nxM m sum La.1) (b := fun i => if m < sum + La.1 + 1 then mgF T La.2 S i else b i) (by omega) (w15.cr hk hr) T15 (fun i => ?_) (Nat.lt_of_le_of_lt (Nat.sub_le _ _) l1) (by rw [e15, zup_o (by decide), e11, zup_o (by decide)]; exact b2) (fun i hi => by rw [e15, zup_o (by decide), e11, zup_o (by decide)]; exact b3 i hi) (by omega) (by unfold nxM; by_cases c : m < sum + La.1 + 1 <;> simp only [c, if_true, if_false] <;> omega) (fun M20 c1 c2 c3 c4 => ⟨pk_in w _ (by omega), fun M24 e24 => ⟨pk_in o _ (by omega), fun M28 e28 => t_X2_extend_129 ?_⟩⟩)
            · rw [S2 i, hS i]
              unfold tU
              constructor
              · rintro ⟨⟨a1, a2, a3⟩, a4, a5⟩
                exact ⟨by omega, a2, by rw [if_neg a5, if_neg a4]; exact a3⟩
              · rintro ⟨a1, a2, a3⟩
                by_cases d1 : i = o
                · rw [if_pos d1] at a3; exact absurd a3 (nI_m1 (by omega))
                · rw [if_neg d1] at a3
                  have d2 : i ≠ w := by omega
                  rw [if_neg d2] at a3
                  exact ⟨⟨by omega, a2, a3⟩, d2, d1⟩
            · have k28 : ∀ q, q ≠ 58 → M28.1 q = M20.1 q := fun q hq => by rw [e28, zup_o hq, e24, zup_o hq]
              rw [nI_1, show o + 1 = w + 1 + (j + 1) by omega]
              refine ihj M28 (fun i hi => ?_) ?_ (fun i hi => ?_) ?_ ?_
              · by_cases d1 : i = o
                · rw [d1, e28, zup_s]; exact z.symm
                · rw [e28, zup_n (Or.inr d1), e24]
                  by_cases d2 : i = w
                  · rw [d2, zup_s]; exact Tw.symm
                  · rw [zup_n (Or.inr d2), c1 i hi]
                    unfold tU
                    rw [if_neg d1, if_neg d2]
              · rw [k28 56 (by decide), c2, nx_nx, btr_1]
                rfl
              · rw [k28 57 (by decide), c3 i hi, btr_1]
                have ob1 : (opB (CS (unF f) k (w + 1)) (unF f) w S o).1 = unF f w o + (CS (unF f) k (w + 1) (S - 2 ^ w - 2 ^ o)).1 := rfl
                have mg : mgF (tU (tU T w (nI o)) o (nI w)) (CS (unF f) k (w + 1) (S - 2 ^ w - 2 ^ o)).2 (S - 2 ^ w - 2 ^ o) i = mgF T (opB (CS (unF f) k (w + 1)) (unF f) w S o).2 S i := by
                  show mgF (tU (tU T w (nI o)) o (nI w)) (CS (unF f) k (w + 1) (S - 2 ^ w - 2 ^ o)).2 (S - 2 ^ w - 2 ^ o) i = mgF T (tU (tU (CS (unF f) k (w + 1) (S - 2 ^ w - 2 ^ o)).2 w (nI o)) o (nI w)) S i
                  unfold mgF tU
                  by_cases d1 : i = o
                  · rw [if_neg (fun y => ((S2 i).mp y).2.2 d1), if_pos d1, if_pos (by rw [d1]; exact oS), if_pos d1]
                  · by_cases d2 : i = w
                    · rw [if_neg (fun y => ((S2 i).mp y).2.1 d2), if_neg d1, if_pos d2, if_pos (by rw [d2]; exact cS), if_neg d1, if_pos d2]
                    · rw [if_neg d1, if_neg d2, if_neg d1, if_neg d2]
                      by_cases d3 : S.testBit i = true
                      · rw [if_pos ((S2 i).mpr ⟨d3, d2, d1⟩), if_pos d3]
                      · rw [if_neg (fun y => d3 ((S2 i).mp y).1), if_neg d3]
                rw [ob1]
                unfold nxM
                by_cases h1 : La.1 < unF f w o + (CS (unF f) k (w + 1) (S - 2 ^ w - 2 ^ o)).1
                · have eb : btr La (opB (CS (unF f) k (w + 1)) (unF f) w S o) = opB (CS (unF f) k (w + 1)) (unF f) w S o := if_pos h1
                  rw [if_pos h1, eb, mg]
                  by_cases h2 : m < sum + (unF f w o + (CS (unF f) k (w + 1) (S - 2 ^ w - 2 ^ o)).1) + 1
                  · rw [if_pos h2]
                    by_cases h3 : m < sum + La.1 + 1
                    · rw [if_pos h3, if_pos (by omega)]
                    · rw [if_neg h3, if_pos (by omega)]
                  · rw [if_neg h2, if_neg (show ¬ m < sum + La.1 + 1 by omega), if_neg (by omega), if_neg (show ¬ m < sum + La.1 + 1 by omega)]
                · have eb : btr La (opB (CS (unF f) k (w + 1)) (unF f) w S o) = La := if_neg h1
                  rw [if_neg h1, eb]
                  by_cases h3 : m < sum + La.1 + 1
                  · rw [if_pos h3, if_neg (by omega), if_pos h3]
                  · rw [if_neg h3, if_neg (by omega), if_neg h3]
              · rw [btr_1]
                by_cases h1 : La.1 < (opB (CS (unF f) k (w + 1)) (unF f) w S o).1
                · rw [if_pos h1]
                  show unF f w o + (CS (unF f) k (w + 1) (S - 2 ^ w - 2 ^ o)).1 ≤ _
                  omega
                · rw [if_neg h1]; exact b4
              · refine cw.trans ?_ (c4.trans w15)
                rw [e28, e24]
                exact (cw.up (by omega)).trans (cw.up (by omega))
        · refine t_X2_extend_61 (pk_le (kN f) (w + 1 + k) (fun _ => ?_) (fun z => absurd z (by omega)) (e8 M' b5))
          rw [← eC] at b2 b3
          exact hp M' b1 b2 b3 b5
        · rw [g3 i hi]
          show (if m < sum + (CS (unF f) k (w + 1) (S - 2 ^ w)).1 + 1 then _ else _) = if m < sum + (CS (unF f) k (w + 1) (S - 2 ^ w)).1 + 1 then mgF T (tU (CS (unF f) k (w + 1) (S - 2 ^ w)).2 w (-1)) S i else b i
          congr 1
          unfold mgF tU
          by_cases d : i = w
          · rw [if_neg (fun y => ((S1 i).mp y).2 d), if_pos (by rw [d]; exact cS), if_pos d, d, Tw]
          · rw [if_neg d]
            by_cases d3 : S.testBit i = true
            · rw [if_pos ((S1 i).mpr ⟨d3, d⟩), if_pos d3]
            · rw [if_neg (fun y => d3 ((S1 i).mp y).1), if_neg d3]
    · have eC : CS (unF f) (k + 1) w S = CS (unF f) k (w + 1) S := by rw [CS, if_neg cS]
      rw [eC] at hp
      refine ih (w := w + 1) (sum := sum) (S := S) (by omega) hr hT (fun j => (hS j).trans ⟨fun y => ⟨?_, y.2⟩, fun y => ⟨by omega, y.2⟩⟩) hS16 h56 h57 (by omega) hm (fun M4 g1 g2 g3 g4 => ⟨pk_in w _ (by omega), fun z => ?_, fun _ => hp M4 g1 g2 g3 g4⟩)
      · have : j ≠ w := fun e => cS ((hS w).mpr (e ▸ y))
        omega
      · exact absurd ((hS w).mpr ⟨Nat.le_refl _, by omega, (g1 w (by omega)).symm.trans z⟩) cS
end SEARCH
