/-! ===== betrays, rests, witness, count ===== -/
section OPE
variable {E : zEv} {D : Nat} {px : String → zM → Prop} {M : zM} {K : zM → Prop} {f : zRow}
theorem s_X11_needTwo {post : zM → Prop} {x y : Int32} {n : Nat} (hn : M.1 62 6 = nI n) (h0 : zv x n → zv y n → x ≠ y → post M) (h1 : ¬ (zv x n ∧ zv y n) → px "java/lang/IndexOutOfBoundsException" M) (h2 : zv x n → zv y n → x = y → px "java/lang/IllegalArgumentException" M) : zCv E jX11_needTwo (D + 1) 3 [.ref 19, .int x, .int y] M post px :=
  e_X11_needTwo (s_X11_needWitness hn (fun c => s_X11_needWitness hn (fun c2 => ⟨fun z => h0 c c2 z, fun z => h2 c c2 z⟩) (fun c2 => h1 (fun z => c2 z.2))) (fun c => h1 (fun z => c z.1)))
theorem s_X12_noTwo {post : Int32 → zM → Prop} {x y : Int32} {n : Nat} (hn : M.1 1 0 = nI n) (hb : n < 2 ^ 30) (h0 : zv x n → zv y n → x ≠ y → post 0 (zup M 0 0 0)) (h1 : ¬ (zv x n ∧ zv y n) → post 1 (zup (zup M 0 0 0) 0 0 1)) (h2 : zv x n → zv y n → x = y → post 1 (zup (zup M 0 0 0) 0 0 2)) : zCi E jX12_noTwo (D + 2) 0 [.ref 0, .int x, .int y] M post px := by
  refine e_X12_noTwo (fun M1 e1 => ?_)
  subst e1
  refine s_X12_noWitness (n := n) (by rw [zup_o (by decide)]; exact hn) hb (fun c => z0B (s_X12_noWitness (n := n) (by rw [zup_o (by decide)]; exact hn) hb (fun c2 => z0A (t_X12_noTwo_27 (s_throws0 (z0B ⟨fun z => t_X12_noTwo_45 (s_throws0 (z0A (t_X12_noTwo_57 ⟨Or.inl rfl, h0 c c2 z⟩))), fun z => t_X12_noTwo_45 (s_throws1 (z1B (t_X12_noTwo_52 (t_X12_noTwo_57 ⟨Or.inr rfl, h2 c c2 z⟩))))⟩)))) (fun c2 => z1B (t_X12_noTwo_22 (t_X12_noTwo_27 (s_throws1 (z1A (t_X12_noTwo_52 (t_X12_noTwo_57 ⟨Or.inr rfl, h1 (fun z => c2 z.2)⟩))))))))) (fun c => z1A (t_X12_noTwo_22 (t_X12_noTwo_27 (s_throws1 (z1A (t_X12_noTwo_52 (t_X12_noTwo_57 ⟨Or.inr rfl, h1 (fun z => c z.1)⟩)))))))
def btF (f : zRow) (x y q : Nat) : Prop := ¬ wtF f x (sdF f q) ≤ 0 ∧ givF f (sdF f q) y
theorem s_X12_isTouched {post : Int32 → zM → Prop} {q w : Nat} (hf : M.1 1 = f) (hk : okF f) (hq : q < 8) (h1 : ¬ wtF f w (sdF f q) ≤ 0 → post 1 M) (h0 : wtF f w (sdF f q) ≤ 0 → post 0 M) : zCi E jX12_isTouched (D + 4) 0 [.ref 0, .int (nI q), .int (nI w)] M post px := by
  refine e_X12_isTouched (s_X12_saidBy (by rw [hf]; exact hk) hq (s_X12_weightOn (by rw [hf]; exact hk) ?_))
  rw [hf]
  exact ⟨fun z => t_X12_isTouched_18 ⟨Or.inl rfl, h0 z⟩, fun z => t_X12_isTouched_18 ⟨Or.inr rfl, h1 z⟩⟩
theorem wt_le (hk : okF f) (w : Nat) (said : Int32) : wtF f w said ≤ 0 ↔ wtF f w said = 0 := by
  obtain ⟨n, hn, e⟩ := wt_N hk w said
  rw [e, show (0 : Int32) = nI 0 from rfl, nI_leI (by omega) (by decide), nI_eq (by omega) (by decide)]
  omega
theorem s_X11_betrays {post : Int32 → zM → Prop} {x y : Nat} (hr : cR M 61 f) (hk : okF f) (hL : lawR M 36 f) (hx : x < wN f) (hy : y < wN f) (hp : ∀ M', bl M' M → post (bI (∃ q, q < qN f ∧ btF f x y q)) M') : w_X11_betrays_8 E (D + 4) post px (nI x) (nI y) 0 M := by
  have q8 := hk.q
  have w5 := hk.w.2
  refine zup_loop (fun i => ∀ M', bl M' M → (∀ q, q < i → ¬ btF f x y q) → w_X11_betrays_8 E (D + 4) post px (nI x) (nI y) (nI i) M') (qN f) (fun i hi ih M' hb hno => ?_) (fun M' hb hno => ?_) 0 (by omega) M bl.refl (fun q hq => absurd hq (by omega))
  · have cr := cR_bl zc61 hb hk hr
    refine t_X11_betrays_8 (pk_le (qN f) i (fun z => absurd z (by omega)) (fun _ => s_X1_raise zc61 cr hk (lawR_bl hb hL) hi (fun M4 h4 b4 => ⟨pk_in x _ (by omega), ?_⟩)) (cr.1.2.2.1.trans q8.1))
    rw [cr.1.2.2.2.2.2.1] at h4
    rw [nI_clamp (by omega), (h4 x hx).1]
    have nx : ¬ btF f x y i → w_X11_betrays_63 E (D + 4) post px (nI x) (nI y) (nI i) M4 := fun hn => t_X11_betrays_63 (by
      rw [nI_1]
      refine ih M4 (b4.trans hb) (fun q hq => ?_)
      by_cases cq : q = i
      · rw [cq]; exact hn
      · exact hno q (by omega))
    refine ⟨fun z => nx (fun q => q.1 z), fun z => s_X1_givesAway (by omega) (h4 y hy).2.2 (h4 y hy).1 (fun z2 => z1B ?_) (fun z2 => z0A (nx (fun q => z2 q.2)))⟩
    have := hp M4 (b4.trans hb)
    rw [bI_t ⟨i, hi, z, z2⟩] at this
    exact this
  · have cr := cR_bl zc61 hb hk hr
    refine t_X11_betrays_8 (pk_le (qN f) (qN f) (fun _ => ?_) (fun z => absurd z (by omega)) (cr.1.2.2.1.trans q8.1))
    have := hp M' hb
    rw [bI_f (fun ⟨q, z1, z2⟩ => hno q z1 z2)] at this
    exact this
theorem s_X12_betrays {post : Int32 → zM → Prop} {x y : Nat} (hf : M.1 1 = f) (hk : okF f) (hL : lawK f) (hx : x < wN f) (hy : y < wN f) (hp : ∀ M', rk M' M → post (bI (∃ q, q < qN f ∧ btF f x y q)) M') : w_X12_betrays_16 E (D + 8) post px (nI x) (nI y) 0 0 M := by
  have q8 := hk.q
  have h00 : bI (∃ q, q < 0 ∧ btF f x y q) = 0 := bI_f (fun ⟨q, z, _⟩ => by omega)
  have key := zup_loop (fun i => ∀ M', rk M' M → w_X12_betrays_16 E (D + 8) post px (nI x) (nI y) (bI (∃ q, q < i ∧ btF f x y q)) (nI i) M') (qN f) (fun i hi ih M' hr => ?_) (fun M' hr => ?_) 0 (by omega) M rk.refl
  · rw [h00] at key
    exact key
  · have hm : M'.1 1 = f := by rw [hr.w, hf]
    have fin : ∀ M2 v, rk M2 M' → v = bI (∃ q, q < i + 1 ∧ btF f x y q) → w_X12_betrays_64 E (D + 8) post px (nI x) (nI y) (nI i) v M2 := fun M2 v r2 hv => t_X12_betrays_64 (by
      rw [nI_1, hv]
      exact ih M2 (r2.trans hr))
    refine t_X12_betrays_16 (e_X12_questions (pk_le (qN f) i (fun z => absurd z (by omega)) (fun _ => ⟨fun z => t_X12_betrays_59 (fin M' 1 rk.refl ?_), fun z => s_X12_isTouched hm hk (by omega) (fun t1 => z1B (s_X12_isTouched hm hk (by omega) (fun t2 => z1A (t_X12_betrays_63 (fin M' 0 rk.refl ?_))) (fun t2 => z0B (s_X12_risesBy hm hk hL (by omega) hy (fun M24 r24 => ⟨fun t3 => t_X12_betrays_63 (fin M24 0 r24 ?_), fun t3 => t_X12_betrays_59 (fin M24 1 r24 ?_)⟩))))) (fun t1 => z0A (t_X12_betrays_63 (fin M' 0 rk.refl ?_)))⟩) (by rw [hm]; exact q8.1)))
    · rw [bI_t (ex_succ.mpr (Or.inl (bI_n0.mp z)))]
    · rw [bI_f (fun y => (ex_succ.mp y).elim (bI_0.mp z) (fun q => t2 ((wt_le hk _ _).mpr q.2.2)))]
    · rw [bI_f (fun y => (ex_succ.mp y).elim (bI_0.mp z) (fun q => q.2.1 t3))]
    · rw [bI_t (ex_succ.mpr (Or.inr ⟨t1, t3, (wt_le hk _ _).mp t2⟩))]
    · rw [bI_f (fun y => (ex_succ.mp y).elim (bI_0.mp z) (fun q => q.1 t1))]
  · have hm : M'.1 1 = f := by rw [hr.w, hf]
    exact t_X12_betrays_16 (e_X12_questions (pk_le (qN f) (qN f) (fun _ => ⟨bI_01 _, hp M' hr⟩) (fun z => absurd z (by omega)) (by rw [hm]; exact q8.1)))
theorem op_betrays {x y : Int32} (h : Rel M) (hK : ∀ M', Rel M' → K M') : zCWi E jL_betrays (D + 20) 3 [.ref 19, .int x, .int y, .ref 18] M (opRb E jX12_betrays (D + 20) [.ref 0, .int x, .int y] K) := by
  have w5 := h.ok.w
  refine e_L_betrays (e_X11_betrays (s_X11_needTwo h.nW (fun c1 c2 c3 => ?_) (fun c => Or.inl ⟨rfl, fun px => ?_⟩) (fun c1 c2 c3 => Or.inr ⟨rfl, fun px => ?_⟩)))
  · obtain ⟨a, ha, rfl⟩ := c1.get (by omega)
    obtain ⟨b, hb, rfl⟩ := c2.get (by omega)
    refine s_X11_betrays h.now h.ok h.law ha hb (fun M1 b1 => ?_)
    have fin : ∀ v : Int64, (bI (∃ q, q < qN (M.1 1) ∧ btF (M.1 1) a b q) = 0 → v = 0) → (¬ bI (∃ q, q < qN (M.1 1) ∧ btF (M.1 1) a b q) = 0 → v = 1) → opRb E jX12_betrays (D + 20) [.ref 0, .int (nI a), .int (nI b)] K 0 (zupL M1 18 0 v) := fun v h0 h1 px => by
      have e1 := bl_w4 (x := v) b1.pi
      refine e_X12_betrays (s_X12_noTwo (n := wN (M.1 1)) (by have := zpi_w b1.pi; rw [zupL_I, this]; exact w5.1) (by omega) (fun _ _ _ => z0A (s_X12_betrays e1 h.ok h.lk ha hb (fun M2 r2 => ?_))) (fun z => absurd ⟨c1, c2⟩ z) (fun _ _ z => absurd z c3))
      exact ok_finb h hK b1.pi (ro.rk r2) ⟨h0, h1⟩
    refine ⟨fun z => t_L_betrays_16 ⟨pk_in 0 _ (by decide), fun M3 e3 => ?_⟩, fun z => t_L_betrays_16 ⟨pk_in 0 _ (by decide), fun M3 e3 => ?_⟩⟩
    · rw [e3]
      exact fin 0 (fun _ => rfl) (fun q => absurd z q)
    · rw [e3]
      exact fin 1 (fun q => absurd q z) (fun _ => rfl)
  · exact e_X12_betrays (s_X12_noTwo w5.1 (by omega) (fun z1 z2 _ => absurd ⟨z1, z2⟩ c) (fun _ => z1B (bad_endb h hK (by decide))) (fun z1 z2 _ => absurd ⟨z1, z2⟩ c))
  · exact e_X12_betrays (s_X12_noTwo w5.1 (by omega) (fun _ _ z => absurd c3 z) (fun z => absurd ⟨c1, c2⟩ z) (fun _ _ _ => z1B (bad_endb h hK (by decide))))
/-! rests -/
def whN (a b : Nat) (sh ri : Int32) : Int32 := if b = 1 then (if a = 0 then 1 else 0) else if a = 1 then -(ri / 5) else -sh
def chN (a b : Nat) (wt : Int32) : Int32 := if a = 0 then (if b = 1 then 2 else 4) else (if b = 1 then 0 else wt - 2)
theorem s_X11_witnessHas {post : Int32 → zM → Prop} {a b : Nat} {sh ri : Int32} (ha : a ≤ 1) (hb : b ≤ 1) (h : post (whN a b sh ri) M) : zCi E jX11_witnessHas D 0 [.int (nI a), .int (nI b), .int sh, .int ri] M post px := by
  have ha' : a = 0 ∨ a = 1 := by omega
  have hb' : b = 0 ∨ b = 1 := by omega
  rcases ha' with rfl | rfl <;> rcases hb' with rfl | rfl
  · exact e_X11_witnessHas ⟨fun _ => ⟨fun _ => t_X11_witnessHas_23 h, fun z => absurd z (by decide)⟩, fun z => absurd z (by decide)⟩
  · exact e_X11_witnessHas ⟨fun z => absurd rfl z, fun _ => h⟩
  · exact e_X11_witnessHas ⟨fun _ => ⟨fun z => absurd rfl z, fun _ => t_X11_witnessHas_23 h⟩, fun z => absurd z (by decide)⟩
  · exact e_X11_witnessHas ⟨fun z => absurd rfl z, fun _ => h⟩
theorem s_X11_courtHas {post : Int32 → zM → Prop} {a b : Nat} {wt : Int32} (ha : a ≤ 1) (hb : b ≤ 1) (h : post (chN a b wt) M) : zCi E jX11_courtHas D 0 [.int (nI a), .int (nI b), .int wt] M post px := by
  have ha' : a = 0 ∨ a = 1 := by omega
  have hb' : b = 0 ∨ b = 1 := by omega
  rcases ha' with rfl | rfl <;> rcases hb' with rfl | rfl
  · exact e_X11_courtHas ⟨fun z => absurd rfl z, fun _ => ⟨fun _ => t_X11_courtHas_14 h, fun z => absurd z (by decide)⟩⟩
  · exact e_X11_courtHas ⟨fun z => absurd rfl z, fun _ => ⟨fun z => absurd rfl z, fun _ => t_X11_courtHas_14 h⟩⟩
  · exact e_X11_courtHas ⟨fun _ => ⟨fun _ => t_X11_courtHas_27 h, fun z => absurd z (by decide)⟩, fun z => absurd z (by decide)⟩
  · exact e_X11_courtHas ⟨fun _ => ⟨fun z => absurd rfl z, fun _ => t_X11_courtHas_27 h⟩, fun z => absurd z (by decide)⟩
theorem s_X12_witnessHas {post : Int32 → zM → Prop} {a b w : Nat} {ri : Int32} (hw : w < 5) (ha : a ≤ 1) (hb : b ≤ 1) (h : post (whN a b (M.1 1 (29 + 5 * w + 1)) ri) M) : zCi E jX12_witnessHas (D + 2) 0 [.ref 0, .int (nI w), .int ri, .int (nI a), .int (nI b)] M post px := by
  have ha' : a = 0 ∨ a = 1 := by omega
  have hb' : b = 0 ∨ b = 1 := by omega
  rcases ha' with rfl | rfl <;> rcases hb' with rfl | rfl
  · exact e_X12_witnessHas ⟨fun z => absurd rfl z, fun _ => ⟨fun z => absurd rfl z, fun _ => s_X12_of (what := 1) (by omega) (t_X12_witnessHas_20 h)⟩⟩
  · exact e_X12_witnessHas ⟨fun z => absurd rfl z, fun _ => ⟨fun _ => t_X12_witnessHas_20 h, fun z => absurd z (by decide)⟩⟩
  · exact e_X12_witnessHas ⟨fun _ => ⟨fun z => absurd rfl z, fun _ => t_X12_witnessHas_34 h⟩, fun z => absurd z (by decide)⟩
  · exact e_X12_witnessHas ⟨fun _ => ⟨fun _ => t_X12_witnessHas_34 h, fun z => absurd z (by decide)⟩, fun z => absurd z (by decide)⟩
theorem s_X12_courtHas {post : Int32 → zM → Prop} {a b : Nat} {wt : Int32} (ha : a ≤ 1) (hb : b ≤ 1) (h : post (chN a b wt) M) : zCi E jX12_courtHas D 0 [.ref 0, .int wt, .int (nI a), .int (nI b)] M post px := by
  have ha' : a = 0 ∨ a = 1 := by omega
  have hb' : b = 0 ∨ b = 1 := by omega
  rcases ha' with rfl | rfl <;> rcases hb' with rfl | rfl
  · exact e_X12_courtHas ⟨fun z => absurd rfl z, fun _ => ⟨fun z => absurd rfl z, fun _ => t_X12_courtHas_13 h⟩⟩
  · exact e_X12_courtHas ⟨fun z => absurd rfl z, fun _ => ⟨fun _ => t_X12_courtHas_13 h, fun z => absurd z (by decide)⟩⟩
  · exact e_X12_courtHas ⟨fun _ => ⟨fun z => absurd rfl z, fun _ => t_X12_courtHas_25 h⟩, fun z => absurd z (by decide)⟩
  · exact e_X12_courtHas ⟨fun _ => ⟨fun _ => t_X12_courtHas_25 h, fun z => absurd z (by decide)⟩, fun z => absurd z (by decide)⟩
def rsP (sh ri wt : Int32) (m : Nat) : Prop := ¬ whN (m / 2) (m % 2) sh ri < whN (1 - m / 2) (m % 2) sh ri ∧ ¬ chN (m / 2) (m % 2) wt < chN (m / 2) (1 - m % 2) wt
theorem m2 {a b : Nat} (hb : b ≤ 1) : (2 * a + b) / 2 = a ∧ (2 * a + b) % 2 = b := by omega
theorem i1m {a : Nat} (h : a ≤ 1) : (1 : Int32) - nI a = nI (1 - a) := pk_sub (a := 1) h
theorem i2m {a b : Nat} : (2 : Int32) * nI a + nI b = nI (2 * a + b) := by rw [show (2 : Int32) = nI 2 from rfl, pk_mul, nI_add]
theorem s_X11_restsL {post : Int32 → zM → Prop} {sh ri wt : Int32} (hp : post (mskF (rsP sh ri wt) 4) M) : w_X11_rests_70 E D post px sh ri wt 0 0 M := by
  have outer := zup_loop (fun i => w_X11_rests_70 E D post px sh ri wt (mskF (rsP sh ri wt) (2 * i)) (nI i) M) 2 (fun i hi ih => ?_) ?_ 0 (by omega)
  · exact outer
  · refine t_X11_rests_70 (pk_lt 1 i (fun z => absurd z (by omega)) (fun _ => ?_))
    refine zup_loop (fun j => w_X11_rests_79 E D post px sh ri wt (mskF (rsP sh ri wt) (2 * i + j)) (nI i) (nI j) M) 2 (fun j hj ihj => ?_) ?_ 0 (by omega)
    · obtain ⟨q1, q2⟩ := m2 (a := i) (b := j) (by omega)
      refine t_X11_rests_79 (pk_lt 1 j (fun z => absurd z (by omega)) (fun _ => ?_))
      rw [i1m (a := i) (by omega)]
      have h171 : ∀ v, v = mskF (rsP sh ri wt) (2 * i + j + 1) → w_X11_rests_171 E D post px sh ri wt v (nI i) (nI j) M := fun v hv => t_X11_rests_171 (by
        rw [nI_1, hv]
        exact ihj)
      have h115 : ∀ s : Int32, (s = 0 ∨ s = 1) → (s = 0 ↔ whN i j sh ri < whN (1 - i) j sh ri) → w_X11_rests_115 E D post px sh ri wt (mskF (rsP sh ri wt) (2 * i + j)) (nI i) (nI j) s M := fun s hs1 hs => by
        refine t_X11_rests_115 ?_
        rw [i1m (a := j) (by omega)]
        refine s_X11_courtHas (by omega) (by omega) (s_X11_courtHas (by omega) (by omega) ⟨fun z => t_X11_rests_145 ⟨fun z2 => h171 _ ?_, fun z2 => z0A (h171 _ ?_)⟩, fun z => t_X11_rests_145 ⟨fun z2 => h171 _ ?_, fun z2 => z1B (h171 _ ?_)⟩⟩)
        · exact msk_n (fun q => by unfold rsP at q; rw [q1, q2] at q; exact q.1 (hs.mp z2))
        · exact msk_n (fun q => by unfold rsP at q; rw [q1, q2] at q; exact q.2 z)
        · exact msk_n (fun q => by unfold rsP at q; rw [q1, q2] at q; exact q.1 (hs.mp z2))
        · rw [i2m]
          exact msk_y (p := rsP sh ri wt) (by unfold rsP; rw [q1, q2]; exact ⟨fun q => z2 (hs.mpr q), z⟩)
      exact s_X11_witnessHas (by omega) (by omega) (s_X11_witnessHas (by omega) (by omega) ⟨fun z => h115 0 (Or.inl rfl) ⟨fun _ => z, fun _ => rfl⟩, fun z => h115 1 (Or.inr rfl) ⟨fun q => absurd q (by decide), fun q => absurd q z⟩⟩)
    · refine t_X11_rests_79 (pk_lt 1 2 (fun _ => ?_) (fun z => absurd z (by omega)))
      rw [nI_1]
      exact ih
  · exact t_X11_rests_70 (pk_lt 1 2 (fun _ => hp) (fun z => absurd z (by omega)))
theorem s_X12_restsL {post : Int32 → zM → Prop} {w : Nat} {ri wt : Int32} (hw : w < 5) (hp : post (mskF (rsP (M.1 1 (29 + 5 * w + 1)) ri wt) 4) M) : w_X12_rests_61 E (D + 2) post px (nI w) ri wt 0 0 M := by
  generalize hsh : M.1 1 (29 + 5 * w + 1) = sh at hp
  have outer := zup_loop (fun i => w_X12_rests_61 E (D + 2) post px (nI w) ri wt (mskF (rsP sh ri wt) (2 * i)) (nI i) M) 2 (fun i hi ih => ?_) ?_ 0 (by omega)
  · exact outer
  · refine t_X12_rests_61 (pk_le 2 i (fun z => absurd z (by omega)) (fun _ => ?_))
    refine zup_loop (fun j => w_X12_rests_70 E (D + 2) post px (nI w) ri wt (mskF (rsP sh ri wt) (2 * i + j)) (nI i) (nI j) M) 2 (fun j hj ihj => ?_) ?_ 0 (by omega)
    · obtain ⟨q1, q2⟩ := m2 (a := i) (b := j) (by omega)
      refine t_X12_rests_70 (pk_le 2 j (fun z => absurd z (by omega)) (fun _ => ?_))
      rw [i1m (a := i) (by omega), i1m (a := j) (by omega), i2m]
      have h141 : ∀ v, mskF (rsP sh ri wt) (2 * i + j) ||| v = mskF (rsP sh ri wt) (2 * i + j + 1) → w_X12_rests_141 E (D + 2) post px (nI w) ri wt (nI i) (nI j) v (mskF (rsP sh ri wt) (2 * i + j)) M := fun v hv => t_X12_rests_141 (by
        rw [nI_1, hv]
        exact ihj)
      refine s_X12_witnessHas hw (by omega) (by omega) (s_X12_witnessHas hw (by omega) (by omega) ?_)
      rw [hsh]
      refine ⟨fun z => t_X12_rests_140 (h141 0 (msk_0 (fun q => by unfold rsP at q; rw [q1, q2] at q; exact q.1 z))), fun z => s_X12_courtHas (by omega) (by omega) (s_X12_courtHas (by omega) (by omega) ⟨fun z2 => t_X12_rests_140 (h141 0 (msk_0 (fun q => by unfold rsP at q; rw [q1, q2] at q; exact q.2 z2))), fun z2 => h141 _ (msk_y (p := rsP sh ri wt) (by unfold rsP; rw [q1, q2]; exact ⟨z, z2⟩))⟩)⟩
    · refine t_X12_rests_70 (pk_le 2 2 (fun _ => ?_) (fun z => absurd z (by omega)))
      rw [nI_1]
      exact ih
  · exact t_X12_rests_61 (pk_le 2 2 (fun _ => hp) (fun z => absurd z (by omega)))
theorem op_rests {x y : Int32} (h : Rel M) (hK : ∀ M', Rel M' → K M') : zCWi E jL_rests (D + 20) 2 [.ref 19, .int x, .int y, .ref 18] M (opR E jX12_rests (D + 20) [.ref 0, .int x, .int y] K) := by
  have w5 := h.ok.w
  have q8 := h.ok.q
  by_cases cw : zv x (wN (M.1 1))
  · obtain ⟨w, hw, rfl⟩ := cw.get (by omega)
    by_cases cq : zv y (qN (M.1 1))
    · obtain ⟨q, hq, rfl⟩ := cq.get (by omega)
      have hin : vp_in (nI w) 5 := pk_in w _ (by omega)
      refine e_L_rests (e_X11_rests (s_X11_needWitness h.nW (fun _ => s_X11_needQuestion h.nQ (fun _ => s_X1_raise zc61 h.now h.ok h.law hq (fun M5 h5 b5 => ⟨hin, hin, hin, ?_⟩)) (fun z => absurd cq z)) (fun z => absurd cw z)))
      have cr := cR_bl zc61 b5 h.ok h.now
      rw [h.so] at h5
      have c64 : M5.1 64 w = M.1 1 (29 + 5 * w + 1) := (cr.2.1 w hw).2.1
      rw [nI_clamp (by omega), (h5 w hw).2.2, (h5 w hw).1, c64]
      refine s_X11_restsL (fun M4 e4 px => ?_)
      rw [n0] at e4
      subst e4
      have e1 := bl_w4 (x := (mskF (rsP (M.1 1 (29 + 5 * w + 1)) (riseF (M.1 1) (sdF (M.1 1) q) w) (wtF (M.1 1) w (sdF (M.1 1) q))) 4).toInt64) b5.pi
      refine e_X12_rests (fun M1 em => ?_)
      subst em
      refine s_X12_noWitness (n := wN (M.1 1)) (by rw [e1]; exact w5.1) (by omega) (fun _ => z0B (s_X12_noQuestion (n := qN (M.1 1)) (by rw [e1]; exact q8.1) (by omega) (fun _ => z0A (t_X12_rests_27 (s_throws0 (z0A (s_X12_risesBy e1 h.ok h.lk (by omega) hw (fun M2 r2 => s_X12_saidBy (by rw [r2.w, e1]; exact h.ok) (by omega) (s_X12_weightOn (by rw [r2.w, e1]; exact h.ok) (s_X12_restsL (by omega) ?_)))))))) (fun z => absurd cq z))) (fun z => absurd cw z)
      exact ok_fin h hK b5.pi (ro.rk r2) (by rw [r2.w, e1])
    · refine e_L_rests (e_X11_rests (s_X11_needWitness h.nW (fun _ => s_X11_needQuestion h.nQ (fun z => absurd z cq) (fun _ => ⟨rfl, fun px => ?_⟩)) (fun z => absurd cw z)))
      exact e_X12_rests (fun M1 e1 => s_X12_noWitness (n := wN (M.1 1)) (by rw [e1]; exact w5.1) (by omega) (fun _ => z0B (s_X12_noQuestion (n := qN (M.1 1)) (by rw [e1]; exact q8.1) (by omega) (fun z => absurd z cq) (fun _ => z1B (t_X12_rests_22 (t_X12_rests_27 (s_throws1 (z1B (by rw [e1]; exact bad_end h hK (by decide))))))))) (fun z => absurd cw z))
  · refine e_L_rests (e_X11_rests (s_X11_needWitness h.nW (fun z => absurd z cw) (fun _ => ⟨rfl, fun px => ?_⟩)))
    exact e_X12_rests (fun M1 e1 => s_X12_noWitness (n := wN (M.1 1)) (by rw [e1]; exact w5.1) (by omega) (fun z => absurd z cw) (fun _ => z1A (t_X12_rests_22 (t_X12_rests_27 (s_throws1 (z1B (by rw [e1]; exact bad_end h hK (by decide))))))))
end OPE
