/-! ===== what a thing is known by ===== -/
section KNOWN
variable {E : zEv} {D : Nat} {px : String → zM → Prop} {M : zM} {K : zM → Prop} {f : zRow}
theorem s_bc {post : Int32 → zM → Prop} {x : Int32} (h : post (bc32 x) M) : zCi E jJ6_bitCount_0f7a4 D 0 [.int x] M post px := e_J6_bitCount_0f7a4 h
theorem s_fill {post : zM → Prop} {a n : Nat} {x : Int32} (ha : zShape[a]? = some (.inr (0, n))) (hn : n < 2 ^ 31) (hp : ∀ M', (∀ j, j < n → M'.1 a j = x) → (∀ o, o ≠ a → M'.1 o = M.1 o) → M'.2 = M.2 → post M') : zCv E jJ7_fill_53178 D 0 [.ref a, .int x] M post px := by
  refine e_J7_fill_53178 ha (zup_loop (fun i => ∀ M', (∀ j, j < i → M'.1 a j = x) → (∀ o, o ≠ a → M'.1 o = M.1 o) → M'.2 = M.2 → w_J7_fill_53178_5 E D post px a n x (nI i) (nI n) M') n (fun i hi ih M' a1 a2 a3 => ?_) (fun M' a1 a2 a3 => ?_) 0 (Nat.zero_le _) M (fun j hj => absurd hj (by omega)) (fun _ _ => rfl) rfl)
  · refine t_J7_fill_53178_5 ha (pk_le n i (fun z => absurd z (by omega)) (fun _ => ⟨pk_in i _ hi, fun M6 e6 => ?_⟩))
    rw [nI_clamp (by omega)] at e6
    rw [nI_1]
    refine ih M6 (fun j hj => ?_) (fun o ho => by rw [e6, zup_o ho]; exact a2 o ho) (by rw [e6, zup_L]; exact a3)
    by_cases c : j = i
    · rw [c, e6, zup_s]
    · rw [e6, zup_n (Or.inr c)]; exact a1 j (by omega)
  · exact t_J7_fill_53178_5 ha (pk_le n n (fun _ => hp M' a1 a2 a3) (fun z => absurd z (by omega)))
/-! a set told by no more than another -/
abbrev clP (f : zRow) (t i S : Nat) : Prop := ∃ T, mustF f t T ∧ (∀ k, k < 8 → T.testBit k = true → S.testBit k = true) ∧ ∀ k, k < 8 → i ≤ k → S.testBit k = true → T.testBit k = true
theorem hi8 {T k : Nat} (h : T < 256) (hk : 8 ≤ k) : T.testBit k = false := by
  have hp : 2 ^ 8 ≤ 2 ^ k := Nat.pow_le_pow_right (by decide) hk
  have h8 : (2 : Nat) ^ 8 = 256 := by decide
  exact Nat.testBit_lt_two_pow (by omega)
theorem must_lt (hk : okF f) {t T : Nat} (h : mustF f t T) : T < 2 ^ qN f ∧ T < 256 := by
  obtain ⟨a, b, -, -, -, -, rfl⟩ := h
  exact (pd_eq hk a b).2
theorem cl_0 (hk : okF f) {t S : Nat} (hS : S < 256) : clP f t 0 S ↔ mustF f t S := by
  refine ⟨fun ⟨T, h1, h2, h3⟩ => ?_, fun h => ⟨S, h, fun _ _ z => z, fun _ _ _ z => z⟩⟩
  have e : T = S := Nat.eq_of_testBit_eq (fun k => by
    by_cases ck : k < 8
    · exact Bool.eq_iff_iff.mpr ⟨h2 k ck, h3 k ck (Nat.zero_le _)⟩
    · rw [hi8 (must_lt hk h1).2 (by omega), hi8 hS (by omega)])
  exact e ▸ h1
theorem cl_n {t i S : Nat} (h : S.testBit i = false) : clP f t (i + 1) S ↔ clP f t i S := by
  refine ⟨fun ⟨T, h1, h2, h3⟩ => ⟨T, h1, h2, fun k hk hi hS => ?_⟩, fun ⟨T, h1, h2, h3⟩ => ⟨T, h1, h2, fun k hk hi => h3 k hk (by omega)⟩⟩
  by_cases c : k = i
  · rw [c, h] at hS; cases hS
  · exact h3 k hk (by omega) hS
theorem sub_bit {S i : Nat} (hS : S < 256) (hi : i < 8) (h : S.testBit i = true) : nI S &&& ((1 <<< (nI i &&& 31)) ^^^ -1) = nI (S - 2 ^ i) := by
  have : ∀ (i : Fin 8) (S : Fin 256), S.val.testBit i.val = true → nI S.val &&& ((1 <<< (nI i.val &&& 31)) ^^^ -1) = nI (S.val - 2 ^ i.val) := by decide +kernel
  exact this ⟨i, hi⟩ ⟨S, hS⟩ h
theorem sub_tb {S i k : Nat} (hS : S < 256) (hi : i < 8) (hk : k < 8) (h : S.testBit i = true) : (S - 2 ^ i).testBit k = (S.testBit k && !decide (k = i)) := by
  rw [← bt_nI (n := S - 2 ^ i) (i := k) (by omega), ← sub_bit hS hi h, bt_and, bt_xor, bt_bit (by omega), bt_m1 (by omega), bt_nI (by omega)]
  cases S.testBit k <;> by_cases c : k = i <;> simp [c]
theorem cl_y {t i S : Nat} (hS : S < 256) (hi : i < 8) (h : S.testBit i = true) (hn : ¬ clP f t (i + 1) (S - 2 ^ i)) : clP f t (i + 1) S ↔ clP f t i S := by
  refine ⟨fun ⟨T, h1, h2, h3⟩ => ?_, fun ⟨T, h1, h2, h3⟩ => ⟨T, h1, h2, fun k hk hi => h3 k hk (by omega)⟩⟩
  cases c : T.testBit i
  · refine absurd ⟨T, h1, fun k hk z => ?_, fun k hk hik z => ?_⟩ hn
    · rw [sub_tb hS hi hk h, h2 k hk z]
      have : k ≠ i := fun e => by rw [e, c] at z; cases z
      simp [this]
    · rw [sub_tb hS hi hk h, Bool.and_eq_true] at z
      exact h3 k hk hik z.1
  · refine ⟨T, h1, h2, fun k hk hik z => ?_⟩
    by_cases e : k = i
    · rw [e]; exact c
    · exact h3 k hk (by omega) z
theorem cl_u {t i S : Nat} (hS : S < 256) (hi : i < 8) (h : S.testBit i = true) (hc : clP f t (i + 1) (S - 2 ^ i)) : clP f t (i + 1) S := by
  obtain ⟨T, h1, h2, h3⟩ := hc
  refine ⟨T, h1, fun k hk z => ?_, fun k hk hik z => h3 k hk hik ?_⟩
  · have := h2 k hk z
    rw [sub_tb hS hi hk h, Bool.and_eq_true] at this
    exact this.1
  · rw [sub_tb hS hi hk h, z]
    have : k ≠ i := by omega
    simp [this]
/-- what the questions of S tell: every pair is parted by one of them -/
abbrev oksF (f : zRow) (t S : Nat) : Prop := ∀ T, T < 256 → mustF f t T → ¬ nI T &&& nI S = 0
theorem and_0 {T S : Nat} (hT : T < 256) : nI T &&& nI S = 0 ↔ ∀ k, k < 8 → ¬ (T.testBit k = true ∧ S.testBit k = true) := by
  constructor
  · intro h k hk z
    have : bt (nI T &&& nI S) k = false := by rw [h, bt_0]
    rw [bt_and, bt_nI (by omega), bt_nI (by omega), z.1, z.2] at this
    cases this
  · intro h
    refine bt_ext (fun k hk => ?_)
    rw [bt_and, bt_nI hk, bt_nI hk, bt_0]
    by_cases c : k < 8
    · have := h k c
      cases e1 : T.testBit k <;> cases e2 : S.testBit k <;> first | rfl | exact absurd ⟨e1, e2⟩ this
    · rw [hi8 hT (by omega)]; rfl
theorem out_nI {q S : Nat} (hq : q ≤ 8) (hS : S < 2 ^ q) : nI (2 ^ q - 1) &&& (nI S ^^^ -1) = nI (2 ^ q - 1 - S) := by
  have : ∀ (q : Fin 9) (S : Fin 256), S.val < 2 ^ q.val → nI (2 ^ q.val - 1) &&& (nI S.val ^^^ -1) = nI (2 ^ q.val - 1 - S.val) := by decide +kernel
  have hp : 2 ^ q ≤ 2 ^ 8 := Nat.pow_le_pow_right (by decide) hq
  have h8 : (2 : Nat) ^ 8 = 256 := by decide
  exact this ⟨q, by omega⟩ ⟨S, by omega⟩ hS
theorem cl_ok (hk : okF f) {t S : Nat} (hS : S < 2 ^ qN f) : clP f t (qN f) (2 ^ qN f - 1 - S) ↔ ¬ oksF f t S := by
  have q8 := hk.q.2
  have tb : ∀ k, k < 8 → (2 ^ qN f - 1 - S).testBit k = (decide (k < qN f) && !S.testBit k) := fun k hk8 => by
    rw [← bt_nI (i := k) (by omega), ← out_nI q8 hS, bt_and, bt_xor, bt_m1 (by omega), bt_nI (by omega), bt_nI (by omega), Nat.testBit_two_pow_sub_one]
    cases S.testBit k <;> rfl
  constructor
  · rintro ⟨T, h1, h2, -⟩ ho
    refine ho T (must_lt hk h1).2 h1 ((and_0 (must_lt hk h1).2).mpr (fun k hk8 z => ?_))
    have := h2 k hk8 z.1
    rw [tb k hk8, z.2] at this
    simp at this
  · intro h
    refine Classical.byContradiction (fun hc => h (fun T hT hm z => hc ⟨T, hm, fun k hk8 zT => ?_, fun k hk8 hik z2 => ?_⟩))
    · have z0 := (and_0 hT).mp z k hk8
      rw [tb k hk8]
      have kq : k < qN f := by
        refine Decidable.byContradiction (fun kn => ?_)
        have hp : 2 ^ qN f ≤ 2 ^ k := Nat.pow_le_pow_right (by decide) (by omega)
        have := (must_lt hk hm).1
        rw [Nat.testBit_lt_two_pow (by omega)] at zT
        cases zT
      cases e : S.testBit k
      · simp [kq]
      · exact absurd ⟨zT, e⟩ z0
    · rw [tb k hk8] at z2
      have : ¬ k < qN f := by omega
      simp [this] at z2
noncomputable def kbI (f : zRow) (t : Nat) : Nat → Int32
  | 0 => -1
  | S + 1 => @ite _ ((kbI f t S = -1 ∨ ¬ bc32 (kbI f t S) ≤ bc32 (nI S)) ∧ oksF f t S) (Classical.propDecidable _) (nI S) (kbI f t S)
theorem pk_pred {n : Nat} (h : 0 < n) : nI n - 1 = nI (n - 1) := by
  obtain ⟨m, rfl⟩ : ∃ m, n = m + 1 := ⟨n - 1, by omega⟩
  rw [← nI_1, Int32.add_sub_cancel]
  rfl
theorem kb_y {t S : Nat} (h : kbI f t S = -1 ∨ ¬ bc32 (kbI f t S) ≤ bc32 (nI S)) (h2 : oksF f t S) : nI S = kbI f t (S + 1) := (if_pos ⟨h, h2⟩).symm
theorem kb_n {t S : Nat} (h : ¬ ((kbI f t S = -1 ∨ ¬ bc32 (kbI f t S) ≤ bc32 (nI S)) ∧ oksF f t S)) : kbI f t S = kbI f t (S + 1) := (if_neg h).symm
theorem two_q (hk : okF f) : 2 ^ qN f ≤ 256 := by
  have hp : 2 ^ qN f ≤ 2 ^ 8 := Nat.pow_le_pow_right (by decide) hk.q.2
  have h8 : (2 : Nat) ^ 8 = 256 := by decide
  omega
theorem xor_has {a b t : Nat} (ht : t < 32) : ((nI a ^^^ nI b) >>> (nI t &&& 31)) &&& 1 = 0 ↔ a.testBit t = b.testBit t := by
  rw [has_0, has_iff ht, bt_xor, bt_nI ht, bt_nI ht]
  cases a.testBit t <;> cases b.testBit t <;> simp
theorem s_X10_markUnparted {post : zM → Prop} {t : Nat} (hr : cR M 61 f) (hk : okF f) (hw : ptW M f (qN f)) (ht : t < tN f) (hp : ∀ M', (∀ S, S < 2 ^ qN f → M'.1 52 S = bI (clP f t (qN f) S)) → wl M' M → post M') : zCv E jX10_markUnparted (D + 2) 0 [.ref 48, .ref 61, .int (nI t)] M post px := by
  have q8 := hk.q
  have t6 := hk.t.2
  have t64 := two_t hk
  have q256 := two_q hk
  have q0 : 0 < 2 ^ qN f := Nat.two_pow_pos _
  have eQ : ∀ M', wl M' M → M'.1 61 7 = nI (qN f) := fun M' w => (cR_wl zc61 w hk hr).1.2.2.1.trans q8.1
  -- the closing
  have close : ∀ M', (∀ S, S < 2 ^ qN f → M'.1 52 S = bI (clP f t 0 S)) → wl M' M → w_X10_markUnparted_74 E (D + 1) post px 0 M' := by
    refine zup_loop (fun i => ∀ M', (∀ S, S < 2 ^ qN f → M'.1 52 S = bI (clP f t i S)) → wl M' M → w_X10_markUnparted_74 E (D + 1) post px (nI i) M') (qN f) (fun i hi ih M' a1 a2 => ?_) (fun M' a1 a2 => ?_) 0 (Nat.zero_le _)
    · refine t_X10_markUnparted_74 (pk_le (qN f) i (fun z => absurd z (by omega)) (fun _ => ?_) (eQ M' a2))
      refine zup_loop (fun S => ∀ M2, (∀ S', S' < 2 ^ qN f → (S' < S → M2.1 52 S' = bI (clP f t (i + 1) S')) ∧ (S ≤ S' → M2.1 52 S' = bI (clP f t i S'))) → wl M2 M → w_X10_markUnparted_85 E (D + 1) post px (nI i) (nI S) M2) (2 ^ qN f) (fun S hS ihS M2 b1 b2 => ?_) (fun M2 b1 b2 => ?_) 0 (Nat.zero_le _) M' (fun S' hS' => ⟨fun z => absurd z (by omega), fun _ => a1 S' hS'⟩) a2
      · have same : (clP f t (i + 1) S ↔ clP f t i S) → w_X10_markUnparted_129 E (D + 1) post px (nI i) (nI S) M2 := fun hc => t_X10_markUnparted_129 (by
          rw [nI_1]
          refine ihS M2 (fun S' hS' => ⟨fun z => ?_, fun z => (b1 S' hS').2 (by omega)⟩) b2
          by_cases c : S' = S
          · rw [c, (b1 S hS).2 (Nat.le_refl _)]; exact (bI_c hc).symm
          · exact (b1 S' hS').1 (by omega))
        refine t_X10_markUnparted_85 ?_
        rw [eQ M2 b2, all_cnt q8.2]
        refine pk_le (2 ^ qN f) S (fun z => absurd z (by omega)) (fun _ => ⟨fun z => same (cl_n ?_), fun z => ?_⟩)
        · exact Bool.eq_false_iff.mpr (fun y => has_0.mp z ((has_N (by omega)).mpr y))
        · have sb : S.testBit i = true := (has_N (by omega)).mp (Classical.byContradiction (fun y => z (has_0.mpr y)))
          have ge : 2 ^ i ≤ S := Nat.ge_two_pow_of_testBit sb
          have p0 : 0 < 2 ^ i := Nat.two_pow_pos _
          rw [sub_bit (by omega) (by omega) sb, nI_clamp (n := S - 2 ^ i) (by omega), nI_clamp (n := S) (by omega), (b1 (S - 2 ^ i) (by omega)).1 (by omega)]
          refine ⟨pk_in (S - 2 ^ i) _ (by omega), fun y => same (cl_y (by omega) (by omega) sb (bI_0.mp y)), fun y => ⟨pk_in S _ (by omega), fun M14 e14 => t_X10_markUnparted_129 ?_⟩⟩
          rw [nI_1]
          refine ihS M14 (fun S' hS' => ⟨fun z => ?_, fun z => ?_⟩) (by rw [e14]; exact (wl.up (by omega)).trans b2)
          · by_cases c : S' = S
            · rw [c, e14, zup_s]; exact (bI_t (cl_u (by omega) (by omega) sb (bI_n0.mp y))).symm
            · rw [e14, zup_n (Or.inr c)]; exact (b1 S' hS').1 (by omega)
          · rw [e14, zup_n (Or.inr (by omega))]; exact (b1 S' hS').2 (by omega)
      · refine t_X10_markUnparted_85 ?_
        rw [eQ M2 b2, all_cnt q8.2]
        refine pk_le (2 ^ qN f) (2 ^ qN f) (fun _ => ?_) (fun z => absurd z (by omega))
        rw [nI_1]
        exact ih M2 (fun S hS => (b1 S hS).1 hS) b2
    · exact t_X10_markUnparted_74 (pk_le (qN f) (qN f) (fun _ => hp M' a1 a2) (fun z => absurd z (by omega)) (eQ M' a2))
  refine e_X10_markUnparted (s_fill (n := 256) (by rfl) (by decide) (fun M0 z0 o0 l0 => ?_))
  have w0 : wl M0 M := ⟨fun o _ _ _ _ _ _ h => o0 o h, l0⟩
  refine zup_loop (fun a => ∀ M', (∀ S, S < 256 → M'.1 52 S = bI (hidP f (fun x _ => x < a) t S)) → M'.1 50 = M.1 50 → wl M' M → w_X10_markUnparted_10 E (D + 1) post px (nI t) (nI a) M') (2 ^ tN f) (fun a ha ih M' a1 a2 a3 => ?_) (fun M' a1 a2 a3 => ?_) 0 (Nat.zero_le _) M0 (fun S hS => by rw [z0 S hS]; exact (bI_f (fun ⟨a, b, h1, _⟩ => absurd h1 (by omega))).symm) (o0 50 (by decide)) w0
  · refine t_X10_markUnparted_10 (s_worldCount zc61 (cR_wl zc61 a3 hk hr) hk (pk_le (2 ^ tN f) a (fun z => absurd z (by omega)) (fun _ => ?_)))
    rw [nI_1]
    refine zup_loop (fun b => a < b → ∀ M2, (∀ S, S < 256 → M2.1 52 S = bI (hidP f (fun x y => x < a ∨ (x = a ∧ y < b)) t S)) → M2.1 50 = M.1 50 → wl M2 M → w_X10_markUnparted_23 E (D + 1) post px (nI t) (nI a) (nI b) M2) (2 ^ tN f) (fun b hb ihb hab M2 b1 b2 b3 => ?_) (fun hab M2 b1 b2 b3 => ?_) (a + 1) (by omega) (by omega) M' (fun S hS => (a1 S hS).trans (bI_c (hid_c (fun x y h1 h2 => by omega)))) a2 a3
    · refine t_X10_markUnparted_23 (s_worldCount zc61 (cR_wl zc61 b3 hk hr) hk (pk_le (2 ^ tN f) b (fun z => absurd z (by omega)) (fun _ => ⟨fun z => t_X10_markUnparted_60 ?_, fun z => ?_⟩)))
      · rw [nI_1]
        exact ihb (by omega) M2 (fun S hS => (b1 S hS).trans (bI_c (hid_n (fun y => absurd ((xor_has (by omega)).mp z) y)))) b2 b3
      · have ne : a.testBit t ≠ b.testBit t := fun y => z ((xor_has (by omega)).mpr y)
        have pw : ptW M2 f (qN f) := fun q s h1 h2 => by rw [b2]; exact hw q s h1 h2
        obtain ⟨p1, p2, p3⟩ := pd_eq hk a b
        rw [eQ M2 b3]
        refine s_X10_partedBy hk pw ha hb ⟨pk_in _ _ p3, fun M15 e15 => t_X10_markUnparted_60 ?_⟩
        rw [nI_clamp (by omega)] at e15
        rw [nI_1]
        refine ihb (by omega) M15 (fun S hS => ?_) (by rw [e15, zup_o (by decide)]; exact b2) (by rw [e15]; exact (wl.up (by omega)).trans b3)
        by_cases c : S = pdN f a b
        · rw [c, e15, zup_s]
          exact (bI_t ⟨a, b, Or.inr ⟨rfl, by omega⟩, hab, hb, rfl, ne⟩).symm
        · rw [e15, zup_n (Or.inr c), b1 S hS]
          exact bI_c (hid_n (fun _ y => c y.symm))
    · refine t_X10_markUnparted_23 (s_worldCount zc61 (cR_wl zc61 b3 hk hr) hk (pk_le (2 ^ tN f) (2 ^ tN f) (fun _ => ?_) (fun z => absurd z (by omega))))
      rw [nI_1]
      exact ih M2 (fun S hS => (b1 S hS).trans (bI_c (hid_c (fun x y h1 h2 => by omega)))) b2 b3
  · refine t_X10_markUnparted_10 (s_worldCount zc61 (cR_wl zc61 a3 hk hr) hk (pk_le (2 ^ tN f) (2 ^ tN f) (fun _ => ?_) (fun z => absurd z (by omega))))
    refine close M' (fun S hS => ?_) a3
    rw [a1 S (by omega)]
    exact bI_c ((hid_must hk).trans ⟨fun z => (cl_0 hk (by omega)).mpr z.2, fun z => ⟨ht, (cl_0 hk (by omega)).mp z⟩⟩)
theorem s_X10_knownBy {post : Int32 → zM → Prop} {t : Nat} (hr : cR M 61 f) (hk : okF f) (hL : lawR M 36 f) (ht : t < tN f) (hp : ∀ M', wl M' M → post (kbI f t (2 ^ qN f)) M') : zCi E jX10_knownBy (D + 6) 0 [.ref 48, .ref 43, .ref 61, .int (nI t)] M post px := by
  have q8 := hk.q
  have q256 := two_q hk
  have q0 : 0 < 2 ^ qN f := Nat.two_pow_pos _
  have eQ : ∀ M', wl M' M → M'.1 61 7 = nI (qN f) := fun M' w => (cR_wl zc61 w hk hr).1.2.2.1.trans q8.1
  have choose : ∀ M', (∀ S, S < 2 ^ qN f → M'.1 52 S = bI (clP f t (qN f) S)) → wl M' M → w_X10_knownBy_48 E (D + 5) post px (nI (2 ^ qN f - 1)) (-1) 0 M' := fun M' m1 w => by
    refine zup_loop (fun S => w_X10_knownBy_48 E (D + 5) post px (nI (2 ^ qN f - 1)) (kbI f t S) (nI S) M') (2 ^ qN f) (fun S hS ih => ?_) ?_ 0 (Nat.zero_le _)
    · have ok : (kbI f t S = -1 ∨ ¬ bc32 (kbI f t S) ≤ bc32 (nI S)) → w_X10_knownBy_74 E (D + 5) post px (nI (2 ^ qN f - 1)) (kbI f t S) (nI S) M' := fun hc => t_X10_knownBy_74 (t_X10_knownBy_79 (z1B ⟨?_, ?_⟩))
      · refine t_X10_knownBy_48 (pk_lt (2 ^ qN f - 1) S (fun z => absurd z (by omega)) (fun _ => ⟨fun z => ok (Or.inl z), fun z => s_bc (s_bc ⟨fun y => t_X10_knownBy_79 (z0A (t_X10_knownBy_105 ?_)), fun y => ok (Or.inr y)⟩)⟩))
        rw [nI_1, kb_n (fun ⟨x, _⟩ => x.elim z (fun x => x y))]
        exact ih
      · rw [out_nI q8.2 hS]
        exact pk_in (2 ^ qN f - 1 - S) _ (by omega)
      · rw [out_nI q8.2 hS, nI_clamp (by omega), m1 _ (by omega)]
        refine ⟨fun z => t_X10_knownBy_105 ?_, fun z => t_X10_knownBy_105 ?_⟩
        · rw [nI_1, kb_n (fun x => (cl_ok hk hS).mp (bI_n0.mp z) x.2)]
          exact ih
        · have := kb_y hc (Classical.byContradiction (fun y => bI_0.mp z ((cl_ok hk hS).mpr y)))
          rw [nI_1]
          refine fa_post (P := fun x => w_X10_knownBy_48 E (D + 5) post px (nI (2 ^ qN f - 1)) x (nI (S + 1)) M') this ih
    · exact t_X10_knownBy_48 (pk_lt (2 ^ qN f - 1) (2 ^ qN f) (fun _ => hp M' w) (fun z => absurd z (by omega)))
  refine e_X10_knownBy (zup_loop (fun i => ∀ M', ptW M' f i → wl M' M → w_X10_knownBy_3 E (D + 5) post px (nI t) (nI i) M') (qN f) (fun i hi ih M' a1 a2 => ?_) (fun M' a1 a2 => ?_) 0 (by omega) M (fun q s hq => absurd hq (by omega)) wl.refl)
  · refine t_X10_knownBy_3 (pk_le (qN f) i (fun z => absurd z (by omega)) (fun _ => ?_) (eQ M' a2))
    refine s_X10_weigh (cR_wl zc61 a2 hk hr) hk (lawR_wl a2 hL) hi (fun M4 b1 b2 b3 b4 b5 b6 => ?_)
    rw [nI_1]
    exact ih M4 (ptW_s hk a1 b2 b3) (b6.trans a2)
  · refine t_X10_knownBy_3 (pk_le (qN f) (qN f) (fun _ => ?_) (fun z => absurd z (by omega)) (eQ M' a2))
    refine s_X10_markUnparted (cR_wl zc61 a2 hk hr) hk a1 ht (fun M4 m1 w4 => ?_)
    rw [eQ M4 (w4.trans a2), all_cnt q8.2, show nI (2 ^ qN f) - 1 = nI (2 ^ qN f - 1) from pk_pred q0]
    exact choose M4 m1 (w4.trans a2)
theorem s_X12_tellsAll {post : Int32 → zM → Prop} {t S : Nat} (hm : ∀ T, T < 256 → M.1 13 T = bI (mustF f t T)) (hp : post (bI (oksF f t S)) M) : zCi E jX12_tellsAll D 0 [.ref 0, .int (nI S)] M post px := by
  have h00 : bI (∀ T, T < 0 → mustF f t T → ¬ nI T &&& nI S = 0) = 1 := bI_t (fun T hT => absurd hT (by omega))
  have key := zup_loop (fun i => w_X12_tellsAll_4 E D post px (nI S) (bI (∀ T, T < i → mustF f t T → ¬ nI T &&& nI S = 0)) (nI i) M) 256 (fun i hi ih => ?_) ?_ 0 (by omega)
  · rw [h00] at key
    exact e_X12_tellsAll key
  · have nx : ∀ v, v = bI (∀ T, T < i + 1 → mustF f t T → ¬ nI T &&& nI S = 0) → w_X12_tellsAll_35 E D post px (nI S) (nI i) v M := fun v hv => t_X12_tellsAll_35 (by
      rw [nI_1, hv]
      exact ih)
    refine t_X12_tellsAll_4 (pk_le 256 i (fun z => absurd z (by omega)) (fun _ => ⟨fun z => t_X12_tellsAll_42 ⟨bI_01 _, ?_⟩, fun z => ⟨pk_in i _ hi, ?_⟩⟩))
    · rw [show bI (∀ T, T < i → mustF f t T → ¬ nI T &&& nI S = 0) = bI (oksF f t S) from bI_c ⟨fun y => absurd y (bI_0.mp z), fun y T hT => y T (by omega)⟩]
      exact hp
    · rw [nI_clamp (by omega), hm i hi]
      have old := bI_n0.mp z
      refine ⟨fun y => t_X12_tellsAll_30 (nx 1 (bI_t (fun T hT hT2 => ?_)).symm), fun y => ⟨fun x => nx 0 (bI_f (fun w => w i (by omega) (bI_n0.mp y) x)).symm, fun x => t_X12_tellsAll_30 (nx 1 (bI_t (fun T hT hT2 => ?_)).symm)⟩⟩
      · by_cases c : T = i
        · exact absurd (c ▸ hT2) (bI_0.mp y)
        · exact old T (by omega) hT2
      · by_cases c : T = i
        · rw [c]; exact x
        · exact old T (by omega) hT2
  · exact t_X12_tellsAll_4 (pk_le 256 256 (fun _ => t_X12_tellsAll_42 ⟨bI_01 _, hp⟩) (fun z => absurd z (by omega)))
theorem s_X12_knownBy {post : Int32 → zM → Prop} {t : Nat} (hf : M.1 1 = f) (hk : okF f) (hL : lawK f) (ht : t < tN f) (hp : ∀ M', rr M' M → post (kbI f t (2 ^ qN f)) M') : zCi E jX12_knownBy (D + 9) 0 [.ref 0, .int (nI t)] M post px := by
  have q8 := hk.q
  have t6 := hk.t.2
  have q256 := two_q hk
  have q0 : 0 < 2 ^ qN f := Nat.two_pow_pos _
  refine e_X12_knownBy (s_X12_laysWorlds hf hk hL (fun M1 hz r1 => s_X12_laysMusts (r1.w.trans hf) hk hz (by omega) (fun M3 h3 o3 l3 => ?_)))
  have r3 : rr M3 M := rr.trans ⟨fun o _ _ _ _ ho => o3 o ho, l3⟩ r1
  have f3 : M3.1 1 = f := r3.w.trans hf
  refine zup_loop (fun S => w_X12_knownBy_13 E (D + 8) post px (kbI f t S) (nI S) M3) (2 ^ qN f) (fun S hS ih => ?_) ?_ 0 (Nat.zero_le _)
  · have ok : (kbI f t S = -1 ∨ ¬ bc32 (kbI f t S) ≤ bc32 (nI S)) → w_X12_knownBy_39 E (D + 8) post px (kbI f t S) (nI S) M3 := fun hc => t_X12_knownBy_39 (s_X12_tellsAll h3 ⟨fun z => t_X12_knownBy_49 ?_, fun z => t_X12_knownBy_49 ?_⟩)
    · refine t_X12_knownBy_13 (e_X12_questions ?_)
      rw [show M3.1 1 ((2 : Int32)).toNatClampNeg = nI (qN f) by rw [f3]; exact q8.1, all_cnt q8.2]
      refine pk_le (2 ^ qN f) S (fun z => absurd z (by omega)) (fun _ => ⟨fun z => ok (Or.inl z), fun z => s_bc (s_bc ⟨fun y => t_X12_knownBy_49 ?_, fun y => ok (Or.inr y)⟩)⟩)
      rw [nI_1, kb_n (fun ⟨x, _⟩ => x.elim z (fun x => x y))]
      exact ih
    · rw [nI_1, kb_n (fun x => bI_0.mp z x.2)]
      exact ih
    · rw [nI_1]
      exact fa_post (P := fun x => w_X12_knownBy_13 E (D + 8) post px x (nI (S + 1)) M3) (kb_y hc (bI_n0.mp z)) ih
  · refine t_X12_knownBy_13 (e_X12_questions ?_)
    rw [show M3.1 1 ((2 : Int32)).toNatClampNeg = nI (qN f) by rw [f3]; exact q8.1, all_cnt q8.2]
    exact pk_le (2 ^ qN f) (2 ^ qN f) (fun _ => hp M3 r3) (fun z => absurd z (by omega))
theorem so_bit (hk : okF f) {t : Nat} (ht : t < tN f) : (soF f >>> (nI t &&& 31)) &&& 1 = f (54 + 3 * t + 2) := by
  have t6 := hk.t.2
  rw [and1, bt_shr (by omega) (by omega), Nat.add_zero]
  rcases isN1 (hk.2.2.1 t ht).2.2.2 with e | e
  · rw [e, if_neg]
    intro z
    have := ((bt_so hk t).mp z).2
    rw [e] at this
    exact absurd this (by decide)
  · rw [e, if_pos ((bt_so hk t).mpr ⟨ht, e⟩)]
theorem op_thing {x y : Int32} (h : Rel M) (hK : ∀ M', Rel M' → K M') : zCWi E jL_thing (D + 20) 2 [.ref 19, .int x, .int y, .ref 18] M (opR E jX12_thing (D + 20) [.ref 0, .int x, .int y] K) := by
  have t6 := h.ok.t
  have nT := h.nT
  generalize hf : M.1 1 = f at *
  have okf : okF f := hf ▸ h.ok
  have lkf : lawK f := hf ▸ h.lk
  have now : cR M 61 f := hf ▸ h.now
  have lw : lawR M 36 f := hf ▸ h.law
  refine e_L_thing (e_X11_thing (s_X11_needThing nT (fun c => ?_) (fun c => Or.inl ⟨rfl, fun px => ?_⟩)))
  · obtain ⟨t, ht, rfl⟩ := c.get (by omega)
    rw [nI_clamp (n := t) (by omega), (now.2.2.1 t ht).1, (now.2.2.1 t ht).2, now.1.2.2.2.2.2.1, so_bit okf ht]
    have ref : ∀ M1 v, ∀ a : Nat, a ≤ 4 → zpi M1 = zpi M → (a < 3 → v = f (54 + 3 * t + a)) → (a = 3 → v = leanF f t) → (a = 4 → v = kbI f t (2 ^ qN f)) → opR E jX12_thing (D + 20) [.ref 0, .int (nI t), .int (nI a)] K 0 (zupL M1 18 0 v.toInt64) := fun M1 v a ha z1 v0 v3 v4 px => by
      have e1 := bl_w4 (x := v.toInt64) z1
      rw [hf] at e1
      refine e_X12_thing (fun M2 em => ?_)
      subst em
      refine s_X12_noThing (n := tN f) (by rw [e1]; exact t6.1) (by omega) (fun _ => s_throws0 (z0B (s_in_rg (a := 0) (b := 4) (fun _ => z1A (t_X12_thing_33 (s_throws0 (z0A ?_)))) (fun z => absurd ?_ z)))) (fun z => absurd c z)
      · have e3 : nI a = 3 ↔ a = 3 := nI_eq (b := 3) (by omega) (by decide)
        have e4 : nI a = 4 ↔ a = 4 := nI_eq (b := 4) (by omega) (by decide)
        refine ⟨fun n3 => ⟨fun n4 => ?_, fun y4 => ?_⟩, fun y3 => ?_⟩
        · have a3 : a < 3 := by
            have x3 : ¬ a = 3 := fun z => n3 (e3.mpr z)
            have x4 : ¬ a = 4 := fun z => n4 (e4.mpr z)
            omega
          refine s_X12_ofThing (by omega) (t_X12_thing_74 ?_)
          rw [e1]
          exact ok_fin h hK z1 ro.up (v0 a3).symm
        · exact s_X12_knownBy e1 okf lkf ht (fun M5 r5 => t_X12_thing_74 (ok_fin h hK z1 r5.ro (v4 (e4.mp y4)).symm))
        · exact s_X12_saying e1 okf (t_X12_thing_74 (ok_fin h hK z1 ro.up (v3 (e3.mp y3)).symm))
      · exact zr_of (by omega) ha (by omega)
    refine ⟨fun e => ⟨pk_in t _ (by omega), fun M4 e4 => ?_⟩, fun n0' => ⟨fun e => ⟨pk_in t _ (by omega), fun M4 e4 => ?_⟩, fun n1' => ⟨fun e M4 e4 => ?_, fun n2' => ⟨fun e => ?_, fun n3' => ⟨fun e => ?_, fun n4' => Or.inr ⟨rfl, fun px => ?_⟩⟩⟩⟩⟩⟩
    · rw [e4, e]
      exact ref M _ 0 (by omega) rfl (fun _ => rfl) (fun z => absurd z (by omega)) (fun z => absurd z (by omega))
    · rw [e4, e]
      exact ref M _ 1 (by omega) rfl (fun _ => rfl) (fun z => absurd z (by omega)) (fun z => absurd z (by omega))
    · rw [e4, e]
      exact ref M _ 2 (by omega) rfl (fun _ => rfl) (fun z => absurd z (by omega)) (fun z => absurd z (by omega))
    · refine s_X3_leaning zc61 now okf (fun M4 e4 => ?_)
      rw [e4, e]
      exact ref M _ 3 (by omega) rfl (fun z => absurd z (by omega)) (fun _ => rfl) (fun z => absurd z (by omega))
    · refine s_X10_knownBy now okf lw ht (fun M1 w1 M4 e4 => ?_)
      rw [e4, e]
      exact ref M1 _ 4 (by omega) w1.pi (fun z => absurd z (by omega)) (fun z => absurd z (by omega)) (fun _ => rfl)
    · refine e_X12_thing (fun M1 e1 => s_X12_noThing (n := tN f) (by rw [e1, zup_o (by decide), hf]; exact t6.1) (by omega) (fun _ => s_throws0 (z0B (s_in_rg (a := 0) (b := 4) (fun z => ?_) (fun _ => z0B (t_X12_thing_33 (s_throws1 (z1B (t_X12_thing_40 (by rw [e1]; exact bad_end h hK (by decide)))))))))) (fun z => absurd c z))
      obtain ⟨a, -, ha, rfl⟩ := z.get (by decide) (by decide)
      have : a = 0 ∨ a = 1 ∨ a = 2 ∨ a = 3 ∨ a = 4 := by omega
      rcases this with rfl | rfl | rfl | rfl | rfl
      · exact absurd rfl n0'
      · exact absurd rfl n1'
      · exact absurd rfl n2'
      · exact absurd rfl n3'
      · exact absurd rfl n4'
  · exact e_X12_thing (fun M1 e1 => s_X12_noThing (n := tN f) (by rw [e1, zup_o (by decide), hf]; exact t6.1) (by omega) (fun z => absurd z c) (fun _ => s_throws1 (z1A (t_X12_thing_40 (by rw [e1]; exact bad_end h hK (by decide))))))
end KNOWN
