/-! ===== which question parts the worlds best: next ===== -/
section NEXT
variable {E : zEv} {D : Nat} {px : String → zM → Prop} {M : zM} {K : zM → Prop} {f : zRow}
theorem cN_y {p : Nat → Prop} {n : Nat} (h : p n) : cN p (n + 1) = cN p n + 1 := by rw [cN, if_pos h]
theorem cN_n {p : Nat → Prop} {n : Nat} (h : ¬ p n) : cN p (n + 1) = cN p n := by rw [cN, if_neg h, Nat.add_zero]
noncomputable abbrev cpA (f : zRow) (q : Nat) (P : Nat → Prop) (n s : Nat) : Nat := cN (fun k => P k ∧ alk f q k s) n
def gpM (f : zRow) (q : Nat) (P : Nat → Prop) (n m : Nat) : Prop := (∀ s, s < n → P s → cpA f q P n s ≤ m) ∧ (m = 0 ∨ ∃ s, s < n ∧ P s ∧ cpA f q P n s = m)
theorem gp_u {q n m m' : Nat} {P : Nat → Prop} (h : gpM f q P n m) (h' : gpM f q P n m') : m = m' := by
  have a : ∀ {m m' : Nat}, gpM f q P n m → gpM f q P n m' → m ≤ m' := fun {m m'} h h' => by
    rcases h.2 with e | ⟨s, h1, h2, h3⟩
    · omega
    · rw [← h3]; exact h'.1 s h1 h2
  have := a h h'
  have := a h' h
  omega
noncomputable def gpV (f : zRow) (P : Nat → Prop) (n q : Nat) : Nat := Classical.epsilon (gpM f q P n)
theorem gp_e {q n m : Nat} {P : Nat → Prop} (h : gpM f q P n m) : m = gpV f P n q := gp_u h (Classical.epsilon_spec (p := gpM f q P n) ⟨m, h⟩)
theorem gp_le {q n m : Nat} {P : Nat → Prop} (h : gpM f q P n m) : m ≤ n := by
  rcases h.2 with e | ⟨s, h1, h2, h3⟩
  · omega
  · rw [← h3]; exact cN_le _ _
theorem cpA_alk {q n a b : Nat} {P : Nat → Prop} (h : alk f q a b) : cpA f q P n a = cpA f q P n b := cN_c (fun k _ => ⟨fun z => ⟨z.1, z.2.trans h⟩, fun z => ⟨z.1, z.2.trans h.symm⟩⟩)
theorem gp_n {q i m : Nat} {P : Nat → Prop} (hn : ¬ P i) (h : gpM f q P i m) : gpM f q P (i + 1) m := by
  have e : ∀ s, cpA f q P (i + 1) s = cpA f q P i s := fun s => cN_n (fun z => hn z.1)
  refine ⟨fun s hs hP => ?_, h.2.imp id (fun ⟨s, h1, h2, h3⟩ => ⟨s, by omega, h2, by rw [e]; exact h3⟩)⟩
  rw [e]
  have : s ≠ i := fun z => hn (z ▸ hP)
  exact h.1 s (by omega) hP
theorem gp_y {q i m : Nat} {P : Nat → Prop} (hy : P i) (h : gpM f q P i m) : gpM f q P (i + 1) (max m (cpA f q P (i + 1) i)) := by
  have e1 : ∀ s, ¬ alk f q i s → cpA f q P (i + 1) s = cpA f q P i s := fun s hs => cN_n (fun z => hs z.2)
  have e2 : ∀ s, alk f q i s → cpA f q P (i + 1) s = cpA f q P i s + 1 := fun s hs => cN_y (p := fun k => P k ∧ alk f q k s) ⟨hy, hs⟩
  refine ⟨fun s hs hP => ?_, ?_⟩
  · by_cases c : alk f q i s
    · rw [cpA_alk c.symm]; exact Nat.le_max_right _ _
    · rw [e1 s c]
      have : s ≠ i := fun z => c (z ▸ alk.refl)
      exact Nat.le_trans (h.1 s (by omega) hP) (Nat.le_max_left _ _)
  · by_cases c : m ≤ cpA f q P (i + 1) i
    · rw [Nat.max_eq_right c]
      exact Or.inr ⟨i, by omega, hy, rfl⟩
    · rw [Nat.max_eq_left (by omega)]
      rcases h.2 with z | ⟨s, h1, h2, h3⟩
      · omega
      · refine Or.inr ⟨s, by omega, h2, ?_⟩
        by_cases ca : alk f q i s
        · have := e2 s ca
          have := cpA_alk (P := P) (n := i + 1) ca
          omega
        · rw [e1 s ca]; exact h3
theorem gp_ex {q : Nat} {P : Nat → Prop} : ∀ n, ∃ m, gpM f q P n m
  | 0 => ⟨0, fun s hs => absurd hs (by omega), Or.inl rfl⟩
  | n + 1 => by
    obtain ⟨m, h⟩ := gp_ex (q := q) (P := P) n
    by_cases c : P n
    · exact ⟨_, gp_y c h⟩
    · exact ⟨m, gp_n c h⟩
theorem gpV_le {q n : Nat} {P : Nat → Prop} : gpV f P n q ≤ n := gp_le (Classical.epsilon_spec (p := gpM f q P n) (gp_ex n))
theorem s_X10_greatestPart {post : Int32 → zM → Prop} {x : Int64} {q : Nat} {P : Nat → Prop} (hr : cR M 61 f) (hk : okF f) (hL : lawR M 36 f) (hq : q < qN f) (hx : ∀ s, s < 2 ^ tN f → (btL x s = true ↔ P s)) (hp : ∀ M' m, gpM f q P (2 ^ tN f) m → wl M' M → post (nI m) M') : zCi E jX10_greatestPart (D + 5) 0 [.ref 48, .ref 43, .ref 61, .int (nI q), .long x] M post px := by
  have q8 := hk.q
  have t64 := two_t hk
  refine e_X10_greatestPart (s_X10_weigh hr hk hL hq (fun M1 a1 a2 a3 a4 a5 a6 => s_fill (n := 64) (by rfl) (by decide) (fun M3 b1 b2 b3 => ?_)))
  have w3 : wl M3 M := wl.trans ⟨fun o _ _ _ _ _ h _ => b2 o h, b3⟩ a6
  refine zup_loop (fun i => ∀ M' m, (∀ p, p < 64 → M'.1 51 p = nI (cN (fun k => P k ∧ ptF f q k = p) i)) → M'.1 50 = M1.1 50 → wl M' M → gpM f q P i m → w_X10_greatestPart_21 E (D + 4) post px (nI q) x (nI m) (nI i) M') (2 ^ tN f) (fun i hi ih M' m c1 c2 c3 c4 => ?_) (fun M' m c1 c2 c3 c4 => ?_) 0 (Nat.zero_le _) M3 0 (fun p hp => b1 p hp) (b2 50 (by decide)) w3 ⟨fun s hs => absurd hs (by omega), Or.inl rfl⟩
  · have cr := cR_wl zc61 c3 hk hr
    have bx := hx i hi
    have pl := pt_le (f := f) (q := q) (s := i)
    have e50 : M'.1 50 (64 * q + i) = nI (ptF f q i) := by rw [c2]; exact a2 i hi
    refine t_X10_greatestPart_21 (s_worldCount zc61 cr hk (pk_le (2 ^ tN f) i (fun z => absurd z (by omega)) (fun _ => ⟨fun z => t_X10_greatestPart_81 ?_, fun z => ?_⟩)))
    · have hn : ¬ P i := fun y => (bitL (by omega)).mp z (bx.mpr y)
      rw [nI_1]
      exact ih M' m (fun p hp => by rw [c1 p hp, cN_n (p := fun k => P k ∧ ptF f q k = p) (fun y => hn y.1)]) c2 c3 (gp_n hn c4)
    · have hy : P i := bx.mp (Classical.byContradiction (fun y => z ((bitL (by omega)).mpr y)))
      have ec : cN (fun k => P k ∧ ptF f q k = ptF f q i) (i + 1) = cpA f q P (i + 1) i := cN_c (fun k _ => ⟨fun y => ⟨y.1, pt_iff.mp y.2⟩, fun y => ⟨y.1, pt_iff.mpr y.2⟩⟩)
      have es : cN (fun k => P k ∧ ptF f q k = ptF f q i) (i + 1) = cN (fun k => P k ∧ ptF f q k = ptF f q i) i + 1 := cN_y (p := fun k => P k ∧ ptF f q k = ptF f q i) ⟨hy, rfl⟩
      have ml := gp_le c4
      have cl : cpA f q P (i + 1) i ≤ i + 1 := cN_le _ _
      rw [show nI q * 64 + nI i = nI (64 * q + i) by rw [show (64 : Int32) = nI 64 from rfl, pk_mul, nI_add, Nat.mul_comm], nI_clamp (n := 64 * q + i) (by omega), e50, nI_clamp (n := ptF f q i) (by omega), c1 _ (by omega), nI_1, ← es, ec]
      refine ⟨pk_in (64 * q + i) _ (by omega), pk_in (ptF f q i) _ (by omega), pk_in (ptF f q i) _ (by omega), fun M16 e16 => ⟨pk_in (ptF f q i) _ (by omega), t_X10_greatestPart_81 ?_⟩⟩
      rw [show M16.1 51 (ptF f q i) = nI (cpA f q P (i + 1) i) by rw [e16, zup_s], zmax_nI (by omega) (by omega), nI_1]
      refine ih M16 _ (fun p hp => ?_) (by rw [e16, zup_o (by decide)]; exact c2) (by rw [e16]; exact (wl.up (by omega)).trans c3) (gp_y hy c4)
      by_cases c : p = ptF f q i
      · rw [c, e16, zup_s, ec]
      · rw [e16, zup_n (Or.inr c), c1 p hp, cN_n (p := fun k => P k ∧ ptF f q k = p) (fun y => c y.2.symm)]
  · exact t_X10_greatestPart_21 (s_worldCount zc61 (cR_wl zc61 c3 hk hr) hk (pk_le (2 ^ tN f) (2 ^ tN f) (fun _ => hp M' m c4 c3) (fun z => absurd z (by omega))))
theorem s_X12_partBy {post : Int32 → zM → Prop} {q : Nat} {P : Nat → Prop} (hf : M.1 1 = f) (hk : okF f) (hz : rzW M f) (h12 : ∀ s, s < 2 ^ tN f → M.1 12 s = bI (P s)) (hq : q < qN f) (hp : ∀ m, gpM f q P (2 ^ tN f) m → post (nI m) M) : zCi E jX12_partBy (D + 2) 0 [.ref 0, .int (nI q)] M post px := by
  have t64 := two_t hk
  have t0 : 0 < 2 ^ tN f := Nat.two_pow_pos _
  refine e_X12_partBy (zup_loop (fun i => ∀ m, ((∀ s, s < i → P s → cpA f q P (2 ^ tN f) s ≤ m) ∧ (m = 0 ∨ ∃ s, s < i ∧ P s ∧ cpA f q P (2 ^ tN f) s = m)) → w_X12_partBy_4 E (D + 1) post px (nI q) (nI m) (nI i) M) (2 ^ tN f) (fun i hi ih m hm => ?_) (fun m hm => ?_) 0 (Nat.zero_le _) 0 ⟨fun s hs => absurd hs (by omega), Or.inl rfl⟩)
  · have ml : m ≤ 2 ^ tN f := by
      rcases hm.2 with e | ⟨s, h1, h2, h3⟩
      · omega
      · rw [← h3]; exact cN_le _ _
    refine t_X12_partBy_4 (s_X12_allThings2 hf hk (pk_lt (2 ^ tN f - 1) i (fun z => absurd z (by omega)) (fun _ => ⟨pk_in i _ (by omega), ?_⟩)))
    rw [nI_clamp (by omega), h12 i hi]
    refine ⟨fun z => ?_, fun z => t_X12_partBy_83 ?_⟩
    · have hy := bI_n0.mp z
      refine zup_loop (fun j => w_X12_partBy_30 E (D + 1) post px (nI q) (nI m) (nI i) (cntI (fun k => P k ∧ alk f q i k) j) (nI j) M) (2 ^ tN f) (fun j hj ihj => ?_) ?_ 0 (Nat.zero_le _)
      · refine t_X12_partBy_30 (s_X12_allThings2 hf hk (pk_lt (2 ^ tN f - 1) j (fun z => absurd z (by omega)) (fun _ => ⟨pk_in j _ (by omega), ?_⟩)))
        rw [nI_clamp (by omega), h12 j hj]
        have no : ¬ (P j ∧ alk f q i j) → w_X12_partBy_66 E (D + 1) post px (nI q) (nI m) (nI i) (nI j) (cntI (fun k => P k ∧ alk f q i k) j) M := fun hn => t_X12_partBy_66 (t_X12_partBy_67 (by rw [nI_1, cnt_0 (p := fun k => P k ∧ alk f q i k) hn]; exact ihj))
        refine ⟨fun z => no (fun y => bI_0.mp z y.1), fun z => s_X12_alikeBy hf hk hz hq hi hj ⟨fun y => no (fun u => bI_0.mp y u.2), fun y => t_X12_partBy_67 ?_⟩⟩
        rw [nI_1, cnt_y (p := fun k => P k ∧ alk f q i k) ⟨bI_n0.mp z, bI_n0.mp y⟩]
        exact ihj
      · refine t_X12_partBy_30 (s_X12_allThings2 hf hk (pk_lt (2 ^ tN f - 1) (2 ^ tN f) (fun _ => t_X12_partBy_83 ?_) (fun z => absurd z (by omega))))
        have ec : cN (fun k => P k ∧ alk f q i k) (2 ^ tN f) = cpA f q P (2 ^ tN f) i := cN_c (fun k _ => ⟨fun y => ⟨y.1, y.2.symm⟩, fun y => ⟨y.1, y.2.symm⟩⟩)
        have cl : cpA f q P (2 ^ tN f) i ≤ 2 ^ tN f := cN_le _ _
        rw [cN_I, ec, zmax_nI (by omega) (by omega), nI_1]
        refine ih _ ⟨fun s hs hP => ?_, ?_⟩
        · by_cases c : s = i
          · rw [c]; exact Nat.le_max_right _ _
          · exact Nat.le_trans (hm.1 s (by omega) hP) (Nat.le_max_left _ _)
        · by_cases c : m ≤ cpA f q P (2 ^ tN f) i
          · rw [Nat.max_eq_right c]
            exact Or.inr ⟨i, by omega, hy, rfl⟩
          · rw [Nat.max_eq_left (by omega)]
            exact hm.2.imp id (fun ⟨s, h1, h2⟩ => ⟨s, by omega, h2⟩)
    · rw [nI_1]
      refine ih m ⟨fun s hs hP => ?_, hm.2.imp id (fun ⟨s, h1, h2⟩ => ⟨s, by omega, h2⟩)⟩
      have : s ≠ i := fun e => bI_0.mp z (e ▸ hP)
      exact hm.1 s (by omega) hP
  · exact t_X12_partBy_4 (s_X12_allThings2 hf hk (pk_lt (2 ^ tN f - 1) (2 ^ tN f) (fun _ => hp m hm) (fun z => absurd z (by omega))))
def bst (g : Nat → Nat) : Nat → Nat
  | 0 => 0
  | q + 1 => if g q < g (bst g q) then q else bst g q
theorem bst_le (g : Nat → Nat) : ∀ q, bst g q ≤ q
  | 0 => Nat.le_refl _
  | q + 1 => by
    have := bst_le g q
    rw [bst]
    by_cases c : g q < g (bst g q)
    · rw [if_pos c]; omega
    · rw [if_neg c]; omega
theorem bst_lt (g : Nat → Nat) : ∀ q, bst g (q + 1) < q + 1 := fun q => by
  have := bst_le g q
  rw [bst]
  by_cases c : g q < g (bst g q)
  · rw [if_pos c]; omega
  · rw [if_neg c]; omega
def chI (g : Nat → Nat) : Nat → Int32
  | 0 => -1
  | q + 1 => nI (bst g (q + 1))
def vlI (g : Nat → Nat) (a : Int32) : Nat → Int32
  | 0 => a
  | q + 1 => nI (g (bst g (q + 1)))
theorem nar_bI (p : Prop) : vp_nar .boolean (bI p) = bI p := by
  rcases bI_01 p with e | e <;> rw [e] <;> rfl
theorem op_next (h : Rel M) (hK : ∀ M', Rel M' → K M') : zCWi E jL_next (D + 20) 1 [.ref 19, .ref 18] M (opR E jX12_next (D + 20) [.ref 0] K) := by
  obtain ⟨n, hn, t1, t2⟩ := h.sz
  have t64 := two_t h.ok
  have q8 := h.ok.q
  have t0 : 0 < 2 ^ tN (M.1 1) := Nat.two_pow_pos _
  generalize hf : M.1 1 = f at *
  have okf : okF f := hf ▸ h.ok
  have lkf : lawK f := hf ▸ h.lk
  refine e_L_next (e_X11_next (s_X11_fittingWorlds h hf hn t1 (fun x M5 hok hx w5 cr5 lw5 => s_bcL ?_) (fun hok => ⟨rfl, fun px => ?_⟩)))
  · generalize eP : fitP f (byF M) (n / 3) = P at *
    have hx' : ∀ s, s < 2 ^ tN f → (btL x s = true ↔ P s) := fun s hs => (hx s (by omega)).trans (by rw [← eP]; exact ⟨fun y => y.2, fun y => ⟨hs, y⟩⟩)
    have eq : cntI (fun i => btL x i = true) 64 = nI (cN P (2 ^ tN f)) := by
      obtain ⟨d, hd⟩ : ∃ d, 64 = 2 ^ tN f + d := ⟨64 - 2 ^ tN f, by omega⟩
      rw [hd, cnt_cut d (fun s h1 h2 z => by have := ((hx s (by omega)).mp z).1; omega), ← cN_I]
      exact cnt_c (fun s hs => hx' s hs)
    have cl := cN_le P (2 ^ tN f)
    rw [eq]
    -- the reference
    have ref : ∀ M6 v, wl M6 M5 → (cN P (2 ^ tN f) < 2 → v = -1) → (2 ≤ cN P (2 ^ tN f) → v = chI (gpV f P (2 ^ tN f)) (qN f)) → opR E jX12_next (D + 20) [.ref 0] K 0 (zupL M6 18 0 v.toInt64) := fun M6 v w6 v1 v2 px => by
      have u4 : uC (zupL M6 18 0 v.toInt64) M := uC.of ((zpi_upL rfl).trans (w6.trans w5).pi)
      refine e_X12_next (s_X12_uses (s_X12_isRows ((us_w u4).trans hf) okf (byF M) (us_by h u4) hn (us_end u4 t2) ?_))
      rw [bI_t hok]
      refine z1A (t_X12_next_17 (s_throws0 (z0A (s_X12_laysWorlds ((us_w u4).trans hf) okf lkf (fun M7 hz r7 => ?_)))))
      -- behind the marking
      have pick : ∀ M2, (∀ s, s < 2 ^ tN f → M2.1 12 s = bI (P s)) → M2.1 11 = M7.1 11 → rr M2 (usM (zupL M6 18 0 v.toInt64)) → w_X12_next_85 E (D + 19) (fun b M2 => M2.1 0 0 = 0 ∧ ((0 : Int32) = 0 → M2.2 18 0 = b.toInt64) ∧ K M2) px (nI (cN P (2 ^ tN f))) (-1) 1000000 0 M2 := fun M2 m1 m2 r2 => by
        obtain ⟨f1, f6, f11, f00, fL⟩ := fit_frame h u4 t2 r2
        have hm := f1.trans hf
        have hz2 : rzW M2 f := fun q s v h1 h2 h3 => by rw [m2]; exact hz q s v h1 h2 h3
        have fin : ∀ b, b = v → w_X12_next_133 E (D + 19) (fun b M2 => M2.1 0 0 = 0 ∧ ((0 : Int32) = 0 → M2.2 18 0 = b.toInt64) ∧ K M2) px b M2 := fun b hb => t_X12_next_133 (ok_us h u4 hK f00 fL r2.pi hb)
        by_cases c2 : 2 ≤ cN P (2 ^ tN f)
        · refine zup_loop (fun q => w_X12_next_85 E (D + 19) (fun b M2 => M2.1 0 0 = 0 ∧ ((0 : Int32) = 0 → M2.2 18 0 = b.toInt64) ∧ K M2) px (nI (cN P (2 ^ tN f))) (chI (gpV f P (2 ^ tN f)) q) (vlI (gpV f P (2 ^ tN f)) 1000000 q) (nI q) M2) (qN f) (fun q hq ih => ?_) ?_ 0 (Nat.zero_le _)
          · refine t_X12_next_85 (e_X12_questions (pk_le (qN f) q (fun z => absurd z (by omega)) (fun _ => ⟨fun z => absurd ((nI_leI (b := 1) (by omega) (by decide)).mp z) (by omega), fun _ => ?_⟩) (by rw [hm]; exact q8.1)))
            · refine s_X12_partBy hm okf hz2 m1 hq (fun m gm => ?_)
              have ml := gp_le gm
              have e := gp_e gm
              subst e
              have nx : ∀ a v', a = chI (gpV f P (2 ^ tN f)) (q + 1) → v' = vlI (gpV f P (2 ^ tN f)) 1000000 (q + 1) → w_X12_next_85 E (D + 19) (fun b M2 => M2.1 0 0 = 0 ∧ ((0 : Int32) = 0 → M2.2 18 0 = b.toInt64) ∧ K M2) px (nI (cN P (2 ^ tN f))) a v' (nI q + 1) M2 := fun a v' ha hv => by rw [nI_1, ha, hv]; exact ih
              cases q with
              | zero =>
                have b1 := bst_lt (gpV f P (2 ^ tN f)) 0
                have b2 : bst (gpV f P (2 ^ tN f)) (0 + 1) = 0 := by omega
                refine ⟨fun z => absurd ((nI_leI (a := 1000000) (by decide) (by omega)).mp z) (by omega), fun _ => t_X12_next_119 (nx _ _ ?_ ?_)⟩
                · show nI 0 = nI (bst (gpV f P (2 ^ tN f)) (0 + 1))
                  rw [b2]
                · show zmin (nI 1000000) (nI (gpV f P (2 ^ tN f) 0)) = nI (gpV f P (2 ^ tN f) (bst (gpV f P (2 ^ tN f)) (0 + 1)))
                  rw [b2, zmin_nI (by decide) (by omega), Nat.min_eq_right (by omega)]
              | succ q =>
                have be : bst (gpV f P (2 ^ tN f)) (q + 1 + 1) = if gpV f P (2 ^ tN f) (q + 1) < gpV f P (2 ^ tN f) (bst (gpV f P (2 ^ tN f)) (q + 1)) then q + 1 else bst (gpV f P (2 ^ tN f)) (q + 1) := rfl
                have gb := gpV_le (f := f) (P := P) (n := 2 ^ tN f) (q := bst (gpV f P (2 ^ tN f)) (q + 1))
                have zz : vlI (gpV f P (2 ^ tN f)) 1000000 (q + 1) ≤ nI (gpV f P (2 ^ tN f) (q + 1)) ↔ gpV f P (2 ^ tN f) (bst (gpV f P (2 ^ tN f)) (q + 1)) ≤ gpV f P (2 ^ tN f) (q + 1) := nI_leI (by omega) (by omega)
                refine ⟨fun z => t_X12_next_119 (nx _ _ ?_ ?_), fun z => t_X12_next_119 (nx _ _ ?_ ?_)⟩ <;> rw [zz] at z
                · show nI (bst (gpV f P (2 ^ tN f)) (q + 1)) = nI (bst (gpV f P (2 ^ tN f)) (q + 1 + 1))
                  rw [be, if_neg (by omega)]
                · show zmin (nI (gpV f P (2 ^ tN f) (bst (gpV f P (2 ^ tN f)) (q + 1)))) (nI (gpV f P (2 ^ tN f) (q + 1))) = nI (gpV f P (2 ^ tN f) (bst (gpV f P (2 ^ tN f)) (q + 1 + 1)))
                  rw [be, if_neg (by omega), zmin_nI (by omega) (by omega), Nat.min_eq_left z]
                · show nI (q + 1) = nI (bst (gpV f P (2 ^ tN f)) (q + 1 + 1))
                  rw [be, if_pos (by omega)]
                · show zmin (nI (gpV f P (2 ^ tN f) (bst (gpV f P (2 ^ tN f)) (q + 1)))) (nI (gpV f P (2 ^ tN f) (q + 1))) = nI (gpV f P (2 ^ tN f) (bst (gpV f P (2 ^ tN f)) (q + 1 + 1)))
                  rw [be, if_pos (by omega), zmin_nI (by omega) (by omega), Nat.min_eq_right (by omega)]
          · exact t_X12_next_85 (e_X12_questions (pk_le (qN f) (qN f) (fun _ => fin _ (v2 c2).symm) (fun z => absurd z (by omega)) (by rw [hm]; exact q8.1)))
        · exact t_X12_next_85 (e_X12_questions ⟨fun _ => fin _ (v1 (by omega)).symm, fun _ => ⟨fun _ => fin _ (v1 (by omega)).symm, fun z => absurd ((nI_leI (b := 1) (by omega) (by decide)).mpr (by omega)) z⟩⟩)
      refine zup_loop (fun s => ∀ M2, (∀ s', s' < s → M2.1 12 s' = bI (P s')) → M2.1 11 = M7.1 11 → rr M2 (usM (zupL M6 18 0 v.toInt64)) → w_X12_next_34 E (D + 19) (fun b M2 => M2.1 0 0 = 0 ∧ ((0 : Int32) = 0 → M2.2 18 0 = b.toInt64) ∧ K M2) px (cntI P s) (nI s) M2) (2 ^ tN f) (fun s hs ih M2 m1 m2 r2 => ?_) (fun M2 m1 m2 r2 => ?_) 0 (Nat.zero_le _) M7 (fun s' hs' => absurd hs' (by omega)) rfl r7
      · obtain ⟨f1, f6, f11, f00, fL⟩ := fit_frame h u4 t2 r2
        have hm := f1.trans hf
        have hz2 : rzW M2 f := fun q s v h1 h2 h3 => by rw [m2]; exact hz q s v h1 h2 h3
        refine t_X12_next_34 (s_X12_allThings2 hm okf (pk_lt (2 ^ tN f - 1) s (fun z => absurd z (by omega)) (fun _ => s_X12_fitsRows hm okf (byF M) f6 f11 hok hz2 hs ?_)))
        rw [eP]
        refine ⟨pk_in s _ (by omega), fun M12 e12 => ⟨pk_in s _ (by omega), ?_⟩⟩
        rw [nI_clamp (by omega), nar_bI] at e12
        have es : M12.1 12 s = bI (P s) := by rw [e12, zup_s]
        rw [nI_clamp (by omega), es]
        have nx := ih M12 (fun s' hs' => by
          by_cases c : s' = s
          · rw [c]; exact es
          · rw [e12, zup_n (Or.inr c)]; exact m1 s' (by omega)) (by rw [e12, zup_o (by decide)]; exact m2) (by rw [e12]; exact (rr.up (Or.inr (Or.inl rfl))).trans r2)
        refine ⟨fun z => t_X12_next_68 ?_, fun z => t_X12_next_68 ?_⟩
        · rw [nI_1, cnt_0 (p := P) (bI_0.mp z)]; exact nx
        · rw [nI_1, cnt_y (p := P) (bI_n0.mp z)]; exact nx
      · obtain ⟨f1, f6, f11, f00, fL⟩ := fit_frame h u4 t2 r2
        refine t_X12_next_34 (s_X12_allThings2 (f1.trans hf) okf (pk_lt (2 ^ tN f - 1) (2 ^ tN f) (fun _ => ?_) (fun z => absurd z (by omega))))
        rw [cN_I]
        exact pick M2 m1 m2 r2
    refine pk_le 2 (cN P (2 ^ tN f)) (fun z => ?_) (fun z M4 e4 => ?_)
    · have eQ : ∀ M', wl M' M5 → M'.1 61 7 = nI (qN f) := fun M' w => (cR_wl zc61 w okf cr5).1.2.2.1.trans q8.1
      refine zup_loop (fun q => ∀ M', wl M' M5 → w_X11_next_23 E (D + 18) (fun r3 M1 => ∀ M4 : zM, M4 = zupL M1 18 (0 : Int32).toNatClampNeg r3.toInt64 → opR E jX12_next (D + 20) [.ref 0] K 0 M4) (fun X M9 => X = "java/lang/IllegalArgumentException" ∧ opR E jX12_next (D + 20) [.ref 0] K 1 M9) x (chI (gpV f P (2 ^ tN f)) q) (vlI (gpV f P (2 ^ tN f)) 0 q) (nI q) M') (qN f) (fun q hq ih M' w => ?_) (fun M' w => ?_) 0 (Nat.zero_le _) M5 wl.refl
      · refine t_X11_next_23 (pk_le (qN f) q (fun z => absurd z (by omega)) (fun _ => s_X10_greatestPart (cR_wl zc61 w okf cr5) okf (lawR_wl w lw5) hq hx' (fun M6 m gm w6 => ?_)) (eQ M' w))
        have ml := gp_le gm
        have e := gp_e gm
        subst e
        have nx : ∀ a v', a = chI (gpV f P (2 ^ tN f)) (q + 1) → v' = vlI (gpV f P (2 ^ tN f)) 0 (q + 1) → w_X11_next_74 E (D + 18) (fun r3 M1 => ∀ M4 : zM, M4 = zupL M1 18 (0 : Int32).toNatClampNeg r3.toInt64 → opR E jX12_next (D + 20) [.ref 0] K 0 M4) (fun X M9 => X = "java/lang/IllegalArgumentException" ∧ opR E jX12_next (D + 20) [.ref 0] K 1 M9) x a v' (nI q) M6 := fun a v' ha hv => t_X11_next_74 (by rw [nI_1, ha, hv]; exact ih M6 (w6.trans w))
        cases q with
        | zero =>
          have b1 := bst_lt (gpV f P (2 ^ tN f)) 0
          have b2 : bst (gpV f P (2 ^ tN f)) (0 + 1) = 0 := by omega
          refine ⟨fun _ => t_X11_next_67 (nx _ _ ?_ ?_), fun z => absurd rfl z⟩
          · show nI 0 = nI (bst (gpV f P (2 ^ tN f)) (0 + 1))
            rw [b2]
          · show nI (gpV f P (2 ^ tN f) 0) = nI (gpV f P (2 ^ tN f) (bst (gpV f P (2 ^ tN f)) (0 + 1)))
            rw [b2]
        | succ q =>
          have be : bst (gpV f P (2 ^ tN f)) (q + 1 + 1) = if gpV f P (2 ^ tN f) (q + 1) < gpV f P (2 ^ tN f) (bst (gpV f P (2 ^ tN f)) (q + 1)) then q + 1 else bst (gpV f P (2 ^ tN f)) (q + 1) := rfl
          have gb := gpV_le (f := f) (P := P) (n := 2 ^ tN f) (q := bst (gpV f P (2 ^ tN f)) (q + 1))
          have bl := bst_lt (gpV f P (2 ^ tN f)) q
          have zz : vlI (gpV f P (2 ^ tN f)) 0 (q + 1) ≤ nI (gpV f P (2 ^ tN f) (q + 1)) ↔ gpV f P (2 ^ tN f) (bst (gpV f P (2 ^ tN f)) (q + 1)) ≤ gpV f P (2 ^ tN f) (q + 1) := nI_leI (by omega) (by omega)
          have big : ∀ a v', a = nI (q + 1) → v' = nI (gpV f P (2 ^ tN f) (q + 1)) → gpV f P (2 ^ tN f) (q + 1) < gpV f P (2 ^ tN f) (bst (gpV f P (2 ^ tN f)) (q + 1)) → a = chI (gpV f P (2 ^ tN f)) (q + 1 + 1) ∧ v' = vlI (gpV f P (2 ^ tN f)) 0 (q + 1 + 1) := fun a v' ha hv hl => by
            have b3 : bst (gpV f P (2 ^ tN f)) (q + 1 + 1) = q + 1 := by rw [be, if_pos hl]
            exact ⟨by rw [ha]; show _ = nI (bst (gpV f P (2 ^ tN f)) (q + 1 + 1)); rw [b3], by rw [hv]; show _ = nI (gpV f P (2 ^ tN f) (bst (gpV f P (2 ^ tN f)) (q + 1 + 1))); rw [b3]⟩
          refine ⟨fun z => absurd z (nI_m1 (by omega)), fun _ => ⟨fun z => nx _ _ ?_ ?_, fun z => t_X11_next_67 (nx _ _ (big _ _ rfl rfl ?_).1 (big _ _ rfl rfl ?_).2)⟩⟩ <;> rw [zz] at z
          · show nI (bst (gpV f P (2 ^ tN f)) (q + 1)) = nI (bst (gpV f P (2 ^ tN f)) (q + 1 + 1))
            rw [be, if_neg (by omega)]
          · show nI (gpV f P (2 ^ tN f) (bst (gpV f P (2 ^ tN f)) (q + 1))) = nI (gpV f P (2 ^ tN f) (bst (gpV f P (2 ^ tN f)) (q + 1 + 1)))
            rw [be, if_neg (by omega)]
          · omega
          · omega
      · refine t_X11_next_23 (pk_le (qN f) (qN f) (fun _ M4 e4 => ?_) (fun z => absurd z (by omega)) (eQ M' w))
        rw [e4]
        exact ref M' _ w (fun y => absurd y (by omega)) (fun _ => rfl)
    · rw [e4]
      exact ref M5 (-1) wl.refl (fun _ => rfl) (fun y => absurd y (by omega))
  · have u1 : uC (zup M 20 1 0) M := uC.of rfl
    refine e_X12_next (s_X12_uses (s_X12_isRows ((us_w u1).trans hf) okf (byF M) (us_by h u1) hn (us_end u1 t2) ?_))
    rw [bI_f hok]
    exact z0B (t_X12_next_17 (s_throws1 (z1B (bad_us h u1 hK (by decide)))))
end NEXT
