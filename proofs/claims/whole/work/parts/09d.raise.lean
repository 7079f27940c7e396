/-! ===== how much each rises: bounds; the class ===== -/
theorem isN_0 {b : Nat} : isN 0 b := ⟨0, by omega, rfl⟩
theorem isN_sum {g : Nat → Int32} {b : Nat} : ∀ {n : Nat}, (∀ i, i < n → isN (g i) b) → isN (sumI g n) (n * b)
  | 0, _ => isN_0
  | n + 1, h => by
    obtain ⟨a, ha, ea⟩ := isN_sum (g := g) (b := b) (n := n) (fun i hi => h i (by omega))
    obtain ⟨c, hc, ec⟩ := h n (by omega)
    refine ⟨a + c, ?_, ?_⟩
    · rw [Nat.succ_mul]; omega
    · rw [sumI, ea, ec, nI_add]
theorem isN_mul {x y : Int32} {a b : Nat} (h : isN x a) (h2 : isN y b) : isN (x * y) (a * b) := by
  obtain ⟨m, hm, rfl⟩ := h
  obtain ⟨n, hn, rfl⟩ := h2
  exact ⟨m * n, Nat.mul_le_mul hm hn, pk_mul m n⟩
theorem isN_add {x y : Int32} {a b : Nat} (h : isN x a) (h2 : isN y b) : isN (x + y) (a + b) := by
  obtain ⟨m, hm, rfl⟩ := h
  obtain ⟨n, hn, rfl⟩ := h2
  exact ⟨m + n, by omega, nI_add m n⟩
theorem isN_maxsub {x y : Int32} {a b : Nat} (h : isN x a) (h2 : isN y b) (ha : a < 2 ^ 30) (hb : b < 2 ^ 30) : isN (zmax 0 (x - y)) a := by
  obtain ⟨m, hm, rfl⟩ := h
  obtain ⟨n, hn, rfl⟩ := h2
  by_cases c : n ≤ m
  · rw [pk_sub c, show (0 : Int32) = nI 0 from rfl, zmax_nI (by decide) (by omega)]
    exact ⟨max 0 (m - n), by omega, rfl⟩
  · have := pk_sneg (a := m) (b := n) (by omega) (by omega)
    unfold zmax
    rw [if_neg (fun z => by rw [fa_lt] at z this; omega)]
    exact isN_0
theorem isN_min {x : Int32} {a b : Nat} (h : isN x a) (ha : a < 2 ^ 31) (hb : b < 2 ^ 31) : isN (zmin (nI b) x) b := by
  obtain ⟨m, hm, rfl⟩ := h
  rw [zmin_nI hb (by omega)]
  exact ⟨min b m, by omega, rfl⟩
section RISE
variable {f : zRow}
theorem wt_N (hk : okF f) (w : Nat) (said : Int32) : isN (wtF f w said) 54 := by
  have t6 := hk.t.2
  refine (isN_sum (b := 9) (fun t ht => ?_)).mono (by omega)
  unfold wtG
  by_cases c : zhas said (nI t) ∧ zhas (f (54 + 3 * t + 1)) (nI w)
  · rw [if_pos c]; exact (hk.2.2.1 t ht).1
  · rw [if_neg c]; exact isN_0
theorem wt_0 (hk : okF f) (w : Nat) : wtF f w 0 = 0 := by
  have t6 := hk.t.2
  obtain ⟨n, hn, e⟩ := isN_sum (g := wtG f w 0) (b := 0) (n := tN f) (fun t ht => by
    unfold wtG
    rw [if_neg (fun z => by
      have := (has_iff (by omega)).mp z.1
      rw [bt_0] at this
      cases this)]
    exact isN_0)
  rw [wtF, e, show n = 0 by omega]
  rfl
theorem lsum_N (hL : lawK f) (which : Int32) (w : Nat) (x : Int32) : isN (lsumF f which w x) 1188 := by
  unfold lsumF
  by_cases c : f 5 = 1
  · rw [if_pos c]
    obtain ⟨n, n12, en, ex, hl⟩ := hL c
    rw [en, tn_nI (by omega)]
    refine (isN_sum (b := 99) (fun l hl2 => ?_)).mono (by omega)
    unfold lnF
    by_cases c2 : f (373 + 4 * l) = which ∧ holdsF f w x l
    · rw [if_pos c2]; exact (hl l hl2).2.2.2.1
    · rw [if_neg c2]; exact isN_0
  · rw [if_neg c]; exact isN_0
theorem own_N (hk : okF f) (hL : lawK f) {w : Nat} (hw : w < wN f) (said : Int32) : isN (ownF f w said) 1683 := by
  unfold ownF
  by_cases c : wtF f w said = 0
  · rw [if_pos c]; exact isN_0
  · rw [if_neg c]
    obtain ⟨a1, a2, a3, -⟩ := hk.2.1 w hw
    exact isN_maxsub (isN_add (isN_add (isN_mul (wt_N hk w said) a1) a2) (lsum_N hL _ _ _)) a3 (by decide) (by decide)
theorem pass_N (hL : lawK f) (w : Nat) (said : Int32) : isN (passF f w said) 99 := by
  unfold passF
  by_cases c : f 5 = 0
  · rw [if_pos c]; exact ⟨50, by decide, rfl⟩
  · rw [if_neg c]; exact isN_min (lsum_N hL _ _ _) (by decide) (by decide)
noncomputable def pdF (f : zRow) (w : Nat) (said : Int32) : Int32 := ownF f w said * passF f w said / 100
theorem pd_N (hk : okF f) (hL : lawK f) {w : Nat} (hw : w < wN f) (said : Int32) : isN (pdF f w said) 1683 := by
  obtain ⟨a, ha, ea⟩ := own_N hk hL hw said
  obtain ⟨b, hb, eb⟩ := pass_N hL w said
  have hab : a * b ≤ 1683 * 99 := Nat.mul_le_mul ha hb
  unfold pdF
  rw [ea, eb, pk_mul, show (100 : Int32) = nI 100 from rfl, pk_div (by omega) (by decide) (by decide)]
  exact ⟨a * b / 100, by omega, rfl⟩
abbrev plc (f : zRow) (v : Nat) : Nat := tn (f (29 + 5 * v + 4))
abbrev rw_ (f : zRow) (k : Nat) : Nat := tn (f (24 + k))
noncomputable def riseF (f : zRow) (said : Int32) (v : Nat) : Int32 := ownF f v said + (if 0 < plc f v then pdF f (rw_ f (plc f v - 1)) said else 0) + (if plc f v + 1 < wN f then pdF f (rw_ f (plc f v + 1)) said else 0)
theorem okF.rwE (hk : okF f) {k : Nat} (h : k < wN f) : f (24 + k) = nI (rw_ f k) ∧ rw_ f k < wN f ∧ plc f (rw_ f k) = k := by
  have w5 := hk.w.2
  obtain ⟨-, -, -, -, -, -, a7, a8, -, a10⟩ := hk.2.1 k h
  exact ⟨a7.eq (by decide), a8, by rw [plc, a10, tn_nI (by omega)]⟩
theorem okF.plE (hk : okF f) {v : Nat} (h : v < wN f) : f (29 + 5 * v + 4) = nI (plc f v) ∧ plc f v < wN f ∧ rw_ f (plc f v) = v := by
  have w5 := hk.w.2
  obtain ⟨-, -, -, -, a5, a6, -, -, a9, -⟩ := hk.2.1 v h
  exact ⟨a5.eq (by decide), a6, by rw [rw_, a9, tn_nI (by omega)]⟩
theorem rise_N (hk : okF f) (hL : lawK f) {v : Nat} (hv : v < wN f) (said : Int32) : isN (riseF f said v) 5049 := by
  obtain ⟨-, hp, -⟩ := hk.plE hv
  refine isN_add (a := 3366) (b := 1683) (isN_add (a := 1683) (b := 1683) (own_N hk hL hv said) ?_) ?_
  · by_cases c : 0 < plc f v
    · rw [if_pos c]
      exact pd_N hk hL (hk.rwE (by omega)).2.1 said
    · rw [if_neg c]; exact isN_0
  · by_cases c : plc f v + 1 < wN f
    · rw [if_pos c]
      exact pd_N hk hL (hk.rwE c).2.1 said
    · rw [if_neg c]; exact isN_0
theorem rise_pos (hk : okF f) (hL : lawK f) {v : Nat} (hv : v < wN f) (said : Int32) : riseF f said v ≤ 0 ↔ riseF f said v = 0 := by
  obtain ⟨n, hn, e⟩ := rise_N hk hL hv said
  rw [e, show (0 : Int32) = nI 0 from rfl, nI_leI (by omega) (by decide), nI_eq (by omega) (by decide)]
  omega
theorem own_c (x a b c d : Int32) : x * a + b - d + c = x * a + b + c - d := by
  apply Int32.toBitVec_inj.1
  show x.toBitVec * a.toBitVec + b.toBitVec - d.toBitVec + c.toBitVec = x.toBitVec * a.toBitVec + b.toBitVec + c.toBitVec - d.toBitVec
  generalize x.toBitVec * a.toBitVec + b.toBitVec = y
  apply BitVec.eq_of_toNat_eq
  simp only [BitVec.toNat_add, BitVec.toNat_sub]
  have h1 := y.isLt
  have h2 := d.toBitVec.isLt
  have h3 := c.toBitVec.isLt
  omega
end RISE
theorem and_has (a b : Int32) : (a &&& b) &&& 1 = 0 ↔ ¬ (a &&& 1 = 1 ∧ b &&& 1 = 1) := by
  rw [and1, and1 a, and1 b, bt_and]
  cases bt a 0 <;> cases bt b 0 <;> simp
section CRAISE
variable {E : zEv} {D : Nat} {px : String → zM → Prop} {M : zM} {f : zRow}
theorem s_X3_weighs {post : Int32 → zM → Prop} {c q w : Nat} {so : Int32} (hc : zIsC c) (hr : cR M c f) (hk : okF f) (hq : q < qN f) (hp : post (wtF f w (f (12 + q) &&& so)) M) : zCi E jX3_weighs D 0 [.ref c, .int (nI q), .int (nI w), .int so] M post px := by
  have t6 := hk.t
  have q8 := hk.q.2
  have ht : M.1 c 6 = nI (tN f) := hr.1.2.1.trans t6.1
  refine e_X3_weighs hc ⟨pk_in q _ (by omega), ?_⟩
  rw [nI_clamp (by omega), hr.2.2.2.1 q hq]
  refine zup_loop (fun i => w_X3_weighs_16 E D post px c (nI w) (f (12 + q) &&& so) (sumI (wtG f w (f (12 + q) &&& so)) i) (nI i) M) (tN f) (fun i hi ih => ?_) ?_ 0 (by omega)
  · refine t_X3_weighs_16 hc (pk_le (tN f) i (fun z => absurd z (by omega)) (fun _ => ⟨pk_in i _ (by omega), ?_⟩) ht)
    rw [nI_clamp (by omega), (hr.2.2.1 i hi).1, (hr.2.2.1 i hi).2]
    refine ⟨fun z => t_X3_weighs_57 hc ?_, fun z => ⟨pk_in i _ (by omega), t_X3_weighs_57 hc ?_⟩⟩
    · rw [nI_1, sumI_z (g := wtG f w (f (12 + q) &&& so)) (if_neg ((and_has _ _).mp z))]
      exact ih
    · rw [nI_1, sumI_s (g := wtG f w (f (12 + q) &&& so)) (v := f (54 + 3 * i)) (if_pos (Decidable.not_not.mp (fun y => z ((and_has _ _).mpr y))))]
      exact ih
  · exact t_X3_weighs_16 hc (pk_le (tN f) (tN f) (fun _ => hp) (fun z => absurd z (by omega)) ht)
theorem s_X1_ownOf {post : Int32 → zM → Prop} {c w : Nat} {said : Int32} (hc : zIsC c) (hr : cR M c f) (hk : okF f) (hL : lawR M 36 f) (hw : w < wN f) (h44 : M.1 44 w = wtF f w said) (hp : ∀ M', bv M' M → post (ownF f w said) M') : zCi E jX1_ownOf (D + 2) 0 [.ref 43, .ref c, .int (nI w)] M post px := by
  have w5 := hk.w.2
  have hin : vp_in (nI w) 5 := pk_in w _ (by omega)
  obtain ⟨r0, r1, r2, r3, r4, r5⟩ := hr.2.1 w hw
  refine e_X1_ownOf hc ?_
  rw [nI_clamp (by omega), h44, r0, r1, r2]
  unfold ownF at hp
  refine ⟨hin, fun z => ⟨hin, hin, hin, s_X6_sum hc hr hw hk hL (fun M' hb => ?_)⟩, fun z => ?_⟩
  · rw [if_neg z] at hp
    rw [own_c]
    exact hp M' hb
  · rw [if_pos z] at hp
    exact hp M bv.refl
theorem s_X1_passes {post : Int32 → zM → Prop} {c w : Nat} {said : Int32} (hc : zIsC c) (hr : cR M c f) (hk : okF f) (hL : lawR M 36 f) (hw : w < wN f) (h44 : M.1 44 w = wtF f w said) (hp : ∀ M', bv M' M → post (passF f w said) M') : zCi E jX1_passes (D + 2) 0 [.ref 43, .ref c, .int (nI w)] M post px := by
  have w5 := hk.w.2
  have hin : vp_in (nI w) 5 := pk_in w _ (by omega)
  refine e_X1_passes hc ?_
  rw [nI_clamp (by omega), h44]
  unfold passF at hp
  refine ⟨fun z => ⟨hin, s_X6_sum hc hr hw hk hL (fun M' hb => ?_)⟩, fun z => ?_⟩
  · rw [if_neg (fun q => z (hL.1 q))] at hp
    exact hp M' hb
  · have h0 : f 5 = 0 := by
      rcases isN1 hk.1.2.2.2.2.2.1 with y | y
      · exact y
      · obtain ⟨n, n12, -, en2, -⟩ := hL.2 y
        rw [en2] at z
        exact absurd z (by
          have := (by decide +kernel : ∀ n : Fin 13, ¬ nI n.val = -1) ⟨n, by omega⟩
          exact this)
    rw [if_pos h0] at hp
    exact hp M bv.refl
/-- nothing but the blush's rows, facts, stack has changed -/
def bl (M' M : zM) : Prop := (∀ o, o ≠ 41 → o ≠ 42 → (o < 44 ∨ 47 < o) → M'.1 o = M.1 o) ∧ M'.2 = M.2
theorem bl.refl {M : zM} : bl M M := ⟨fun _ _ _ _ => rfl, rfl⟩
theorem bl.trans {M1 M2 M3 : zM} (h : bl M1 M2) (h2 : bl M2 M3) : bl M1 M3 := ⟨fun o a b d => (h.1 o a b d).trans (h2.1 o a b d), h.2.trans h2.2⟩
theorem bl.up {M : zM} {o j : Nat} {v : Int32} (h : 44 ≤ o) (h2 : o ≤ 47) : bl (zup M o j v) M := ⟨fun _ _ _ ho => zup_o (by omega), rfl⟩
theorem bv.bl {M' M : zM} (h : bv M' M) : bl M' M := ⟨fun o a b _ => h.1 o a b, h.2⟩
theorem bl.w {M' M : zM} (h : bl M' M) : M'.1 1 = M.1 1 := h.1 1 (by decide) (by decide) (by omega)
theorem bl.pi {M' M : zM} (h : bl M' M) : zpi M' = zpi M := zpi_of fun o j hi => ⟨by
  rw [h.1 o (by rintro rfl; cases hi) (by rintro rfl; cases hi) (by
    refine Decidable.byContradiction (fun z => ?_)
    have : o = 44 ∨ o = 45 ∨ o = 46 ∨ o = 47 := by omega
    rcases this with rfl | rfl | rfl | rfl <;> cases hi)], by rw [h.2]⟩
theorem cR_bl {M M' : zM} {c : Nat} (hc : zIsC c) (h : bl M' M) (hk : okF f) (hr : cR M c f) : cR M' c f := by
  have := hc.lo
  exact cR_same (fun o j h1 h2 => ⟨by rw [h.1 o (by omega) (by omega) (by omega)], by rw [h.2]⟩) hk hr
theorem lawR_bl {M M' : zM} (h : bl M' M) (hr : lawR M 36 f) : lawR M' 36 f :=
  lawR_same rfl (fun _ _ => rfl) (by rw [h.1 36 (by decide) (by decide) (by omega)]) (fun i j _ _ _ => by rw [h.1 _ (by omega) (by omega) (by omega)]) (fun j _ => by rw [h.1 _ (by omega) (by omega) (by omega)]) hr
def rsI (M' : zM) (f : zRow) (said : Int32) (i : Nat) : Prop := ∀ k, k < i → M'.1 44 k = wtF f k said ∧ M'.1 45 k = ownF f k said ∧ M'.1 46 k = pdF f k said
theorem rsI_bv {M' M : zM} {said : Int32} {i : Nat} (h : bv M' M) (hi : rsI M f said i) : rsI M' f said i := fun k hk => by
  rw [h.1 44 (by decide) (by decide), h.1 45 (by decide) (by decide), h.1 46 (by decide) (by decide)]
  exact hi k hk
theorem s_X1_raise {post : zM → Prop} {c q : Nat} {so : Int32} (hc : zIsC c) (hr : cR M c f) (hk : okF f) (hL : lawR M 36 f) (hq : q < qN f) (hp : ∀ M', (∀ v, v < wN f → M'.1 44 v = wtF f v (f (12 + q) &&& so) ∧ M'.1 45 v = ownF f v (f (12 + q) &&& so) ∧ M'.1 47 v = riseF f (f (12 + q) &&& so) v) → bl M' M → post M') : zCv E jX1_raise (D + 3) 0 [.ref 43, .ref c, .int (nI q), .int so] M post px := by
  have w5 := hk.w
  have hw0 : M.1 (c + 1) 6 = nI (wN f) := hr.1.1.trans w5.1
  have hlo := hc.lo
  generalize hsd : f (12 + q) &&& so = said at hp
  -- the second loop: by places
  have loop2 : ∀ M0, bl M0 M → rsI M0 f said (wN f) → w_X1_raise_96 E (D + 2) post px c 0 M0 := fun M0 hb0 hi0 => by
    refine zup_loop (fun i => ∀ M', bl M' M0 → rsI M' f said (wN f) → (∀ k, k < i → M'.1 47 (rw_ f k) = riseF f said (rw_ f k)) → w_X1_raise_96 E (D + 2) post px c (nI i) M') (wN f) (fun i hi ih M' hb hri h47 => ?_) (fun M' hb hri h47 => ?_) 0 (by omega) M0 bl.refl hi0 (fun k hk => absurd hk (by omega))
    · have hb' := hb.trans hb0
      have cN : M'.1 (c + 1) 6 = nI (wN f) := by rw [hb'.1 _ (by omega) (by omega) (by omega)]; exact hw0
      have cS : ∀ k, k < wN f → M'.1 (c + 7) k = nI (rw_ f k) := fun k hk' => by
        rw [hb'.1 _ (by omega) (by omega) (by omega)]
        exact (hr.2.1 k hk').2.2.2.2.2.trans (hk.rwE hk').1
      obtain ⟨e1, e2, e3⟩ := hk.rwE hi
      refine t_X1_raise_96 hc (pk_le (wN f) i (fun z => absurd z (by omega)) (fun _ => ?_) cN)
      rw [nI_clamp (n := i) (by omega), cS i hi, nI_clamp (n := rw_ f i) (by omega)]
      have hin : vp_in (nI (rw_ f i)) 5 := pk_in (rw_ f i) _ (by omega)
      refine ⟨pk_in i _ (by omega), hin, hin, fun M10 e10 => ?_⟩
      have b10 : bl M10 M' := by rw [e10]; exact bl.up (by decide) (by decide)
      have o45 : M'.1 45 (rw_ f i) = ownF f (rw_ f i) said := (hri _ e2).2.1
      rw [o45] at e10
      -- behind both neighbours
      have fin : ∀ M2, bl M2 M' → rsI M2 f said (wN f) → M2.1 47 (rw_ f i) = riseF f said (rw_ f i) → (∀ j, j ≠ rw_ f i → M2.1 47 j = M'.1 47 j) → w_X1_raise_197 E (D + 2) post px c (nI i) M2 := fun M2 g1 g2 g3 g4 => t_X1_raise_197 hc (by
        rw [nI_1]
        refine ih M2 (g1.trans hb) g2 (fun k hk' => ?_)
        by_cases ck : k = i
        · rw [ck]; exact g3
        · obtain ⟨f1, f2, f3⟩ := hk.rwE (show k < wN f by omega)
          rw [g4 _ (fun z => ck (by rw [← f3, z, e3]))]
          exact h47 k (by omega))
      have right : ∀ M2 v, M2 = zup M10 47 (rw_ f i) v ∨ (M2 = M10 ∧ v = ownF f (rw_ f i) said) → v = ownF f (rw_ f i) said + (if 0 < i then pdF f (rw_ f (i - 1)) said else 0) → w_X1_raise_160 E (D + 2) post px c (nI i) (nI (rw_ f i)) M2 := fun M2 v hM2 hv => by
        have b2 : bl M2 M' := by
          rcases hM2 with h | ⟨h, -⟩
          · rw [h]; exact (bl.up (by decide) (by decide)).trans b10
          · rw [h]; exact b10
        have v2 : M2.1 47 (rw_ f i) = v := by
          rcases hM2 with h | ⟨h, h2⟩
          · rw [h]; exact zup_s
          · rw [h, e10, h2]; exact zup_s
        have o2 : ∀ o, o ≠ 47 → M2.1 o = M'.1 o := fun o ho => by
          rcases hM2 with h | ⟨h, -⟩
          · rw [h, zup_o ho, e10, zup_o ho]
          · rw [h, e10, zup_o ho]
        have n2 : ∀ j, j ≠ rw_ f i → M2.1 47 j = M'.1 47 j := fun j hj => by
          rcases hM2 with h | ⟨h, -⟩
          · rw [h, zup_n (Or.inr hj), e10, zup_n (Or.inr hj)]
          · rw [h, e10, zup_n (Or.inr hj)]
        have r2 : rsI M2 f said (wN f) := fun k hk' => by
          rw [o2 44 (by decide), o2 45 (by decide), o2 46 (by decide)]
          exact hri k hk'
        have eN : M2.1 (c + 1) 6 - 1 = nI (wN f - 1) := by
          rw [o2 _ (by omega), cN]
          exact pk_sub (b := 1) (by omega)
        have rE : riseF f said (rw_ f i) = v + (if i + 1 < wN f then pdF f (rw_ f (i + 1)) said else 0) := by
          unfold riseF
          rw [e3, hv]
        refine t_X1_raise_160 hc (pk_le (wN f - 1) i (fun z => ?_) (fun z => ?_) eN)
        · refine fin M2 b2 r2 ?_ n2
          rw [v2, rE, if_neg (by omega), Int32.add_zero]
        · have hs1 : M2.1 (c + 7) (i + 1) = nI (rw_ f (i + 1)) := by rw [o2 _ (by omega)]; exact cS (i + 1) (by omega)
          obtain ⟨f1, f2, f3⟩ := hk.rwE (show i + 1 < wN f by omega)
          rw [nI_1, nI_clamp (n := i + 1) (by omega), hs1, nI_clamp (n := rw_ f (i + 1)) (by omega), nI_clamp (n := rw_ f i) (by omega), v2, (r2 _ f2).2.2]
          refine ⟨hin, pk_in (i + 1) _ (by omega), pk_in _ _ (show rw_ f (i + 1) < 5 by omega), hin, fun M12 e12 => ?_⟩
          refine fin M12 (by rw [e12]; exact (bl.up (by decide) (by decide)).trans b2) (fun k hk' => by rw [e12, zup_o (by decide), zup_o (by decide), zup_o (by decide)]; exact r2 k hk') ?_ (fun j hj => by rw [e12, zup_n (Or.inr hj)]; exact n2 j hj)
          rw [e12, zup_s, rE, if_pos (by omega)]
      refine pk_le i 0 (fun z => right M10 _ (Or.inr ⟨rfl, rfl⟩) ?_) (fun z => ?_)
      · rw [if_neg (by omega), Int32.add_zero]
      · rw [show nI i - 1 = nI (i - 1) from pk_sub (b := 1) (by omega), nI_clamp (n := i - 1) (by omega)]
        have hs1 : M10.1 (c + 7) (i - 1) = nI (rw_ f (i - 1)) := by rw [e10, zup_o (by omega)]; exact cS (i - 1) (by omega)
        obtain ⟨f1, f2, f3⟩ := hk.rwE (show i - 1 < wN f by omega)
        rw [hs1, nI_clamp (n := rw_ f (i - 1)) (by omega)]
        refine ⟨hin, pk_in (i - 1) _ (by omega), pk_in _ _ (show rw_ f (i - 1) < 5 by omega), hin, fun M23 e23 => ?_⟩
        have a1 : M10.1 47 (rw_ f i) = ownF f (rw_ f i) said := by rw [e10, zup_s]
        have a2 : M10.1 46 (rw_ f (i - 1)) = pdF f (rw_ f (i - 1)) said := by rw [e10, zup_o (by decide)]; exact (hri _ f2).2.2
        rw [a1, a2] at e23
        exact right M23 _ (Or.inl e23) (by rw [if_pos z])
    · have hb' := hb.trans hb0
      have cN : M'.1 (c + 1) 6 = nI (wN f) := by rw [hb'.1 _ (by omega) (by omega) (by omega)]; exact hw0
      refine t_X1_raise_96 hc (pk_le (wN f) (wN f) (fun _ => hp M' (fun v hv => ?_) hb') (fun z => absurd z (by omega)) cN)
      obtain ⟨f1, f2, f3⟩ := hk.plE hv
      have := h47 (plc f v) f2
      rw [f3] at this
      exact ⟨(hri v hv).1, (hri v hv).2.1, this⟩
  refine e_X1_raise hc (zup_loop (fun i => ∀ M', bl M' M → rsI M' f said i → w_X1_raise_9 E (D + 2) post px c (nI q) so (nI i) M') (wN f) (fun i hi ih M' hb hri => ?_) (fun M' hb hri => ?_) 0 (by omega) M bl.refl (fun k hk' => absurd hk' (by omega)))
  · have cN : M'.1 (c + 1) 6 = nI (wN f) := by rw [hb.1 _ (by omega) (by omega) (by omega)]; exact hw0
    have hin : vp_in (nI i) 5 := pk_in i _ (by omega)
    refine t_X1_raise_9 hc (pk_le (wN f) i (fun z => absurd z (by omega)) (fun _ => s_X3_weighs hc (cR_bl hc hb hk hr) hk hq ⟨hin, fun M9 e9 => ?_⟩) cN)
    rw [nI_clamp (by omega), hsd] at e9
    have b9 : bl M9 M' := by rw [e9]; exact bl.up (by decide) (by decide)
    have hb9 := b9.trans hb
    have h44 : M9.1 44 i = wtF f i said := by rw [e9]; exact zup_s
    refine s_X1_ownOf hc (cR_bl hc hb9 hk hr) hk (lawR_bl hb9 hL) hi h44 (fun M11 b11 => ⟨hin, fun M16 e16 => ⟨hin, ?_⟩⟩)
    rw [nI_clamp (by omega)] at e16 ⊢
    have b16 : bl M16 M := by
      rw [e16]
      exact (bl.up (by decide) (by decide)).trans (b11.bl.trans hb9)
    have h45 : M16.1 45 i = ownF f i said := by rw [e16]; exact zup_s
    have h44' : M16.1 44 i = wtF f i said := by rw [e16, zup_o (by decide), b11.1 44 (by decide) (by decide)]; exact h44
    have r16 : ∀ k, k < i → M16.1 44 k = wtF f k said ∧ M16.1 45 k = ownF f k said ∧ M16.1 46 k = pdF f k said := fun k hk' => by
      have := rsI_bv b11 (M := M9) (i := i) (f := f) (said := said) (fun k hk2 => by
        rw [e9, zup_n (Or.inr (by omega)), zup_o (by decide), zup_o (by decide)]
        exact hri k hk2) k hk'
      rw [e16, zup_o (by decide), zup_n (Or.inr (by omega)), zup_o (by decide)]
      exact this
    have h86 : ∀ v M2, v = pdF f i said → bv M2 M16 → w_X1_raise_86 E (D + 2) post px c (nI q) so (nI i) v (nI i) M2 := fun v M2 hv b2 => t_X1_raise_86 hc ⟨hin, fun M3 e3 => by
      rw [nI_clamp (by omega)] at e3
      rw [nI_1]
      refine ih M3 (by rw [e3]; exact (bl.up (by decide) (by decide)).trans (b2.bl.trans b16)) (fun k hk' => ?_)
      by_cases ck : k = i
      · rw [ck, e3, zup_o (by decide), zup_o (by decide), zup_s, b2.1 44 (by decide) (by decide), b2.1 45 (by decide) (by decide)]
        exact ⟨h44', h45, hv⟩
      · rw [e3, zup_o (by decide), zup_o (by decide), zup_n (Or.inr ck), b2.1 44 (by decide) (by decide), b2.1 45 (by decide) (by decide), b2.1 46 (by decide) (by decide)]
        exact r16 k (by omega)⟩
    rw [h45]
    refine ⟨fun z => ⟨hin, s_X1_passes hc (cR_bl hc b16 hk hr) hk (lawR_bl b16 hL) hi h44' (fun M25 b25 => h86 _ M25 rfl b25)⟩, fun z => h86 _ M16 ?_ bv.refl⟩
    unfold pdF
    rw [z, Int32.zero_mul]
    rfl
  · have cN : M'.1 (c + 1) 6 = nI (wN f) := by rw [hb.1 _ (by omega) (by omega) (by omega)]; exact hw0
    exact t_X1_raise_9 hc (pk_le (wN f) (wN f) (fun _ => loop2 M' hb hri) (fun z => absurd z (by omega)) cN)
end CRAISE
