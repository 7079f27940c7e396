/-! ===== the log ===== -/
theorem lN_shr {n : Nat} (h : n < 2 ^ 63) (s : Int64) (k : Nat) (hs : (s.toBitVec.smod 64).toNat = k) : lN n >>> s = lN (n / 2 ^ k) := by
  apply Int64.toInt_inj.mp
  have h2 : n / 2 ^ k ≤ n := Nat.div_le_self _ _
  have e : (lN n >>> s).toInt = (lN n).toInt >>> k := by
    show ((lN n).toBitVec.sshiftRight (s.toBitVec.smod 64).toNat).toInt = _
    rw [hs, BitVec.toInt_sshiftRight]
    rfl
  rw [e, pk_lT h, pk_lT (by omega), Int.shiftRight_eq_div_pow]
  rfl
theorem lN_and (a b : Nat) : lN a &&& lN b = lN (a &&& b) := by
  apply Int64.toBitVec_inj.1
  show BitVec.ofNat 64 a &&& BitVec.ofNat 64 b = BitVec.ofNat 64 (a &&& b)
  apply BitVec.eq_of_getLsbD_eq
  intro i hi
  simp [hi]
theorem lN_or (a b : Nat) : lN a ||| lN b = lN (a ||| b) := by
  apply Int64.toBitVec_inj.1
  show BitVec.ofNat 64 a ||| BitVec.ofNat 64 b = BitVec.ofNat 64 (a ||| b)
  apply BitVec.eq_of_getLsbD_eq
  intro i hi
  simp [hi]
theorem lN_mask (n k : Nat) : lN n &&& lN (2 ^ k - 1) = lN (n % 2 ^ k) := by rw [lN_and, Nat.and_two_pow_sub_one_eq_mod]
theorem lN_or_sum {a k : Nat} (b : Nat) (h : a < 2 ^ k) : lN (b * 2 ^ k) ||| lN a = lN (b * 2 ^ k + a) := by rw [lN_or, Nat.mul_comm b, Nat.two_pow_add_eq_or_of_lt h]
theorem lN_shl (n : Nat) (s : Int64) (k : Nat) (hs : (s.toBitVec.smod 64).toNat = k) : lN n <<< s = lN (n * 2 ^ k) := by
  apply Int64.toBitVec_inj.1
  show (lN n).toBitVec <<< (s.toBitVec.smod 64) = BitVec.ofNat 64 (n * 2 ^ k)
  rw [BitVec.shiftLeft_eq', hs]
  apply BitVec.eq_of_toNat_eq
  rw [BitVec.toNat_shiftLeft, BitVec.toNat_ofNat, Nat.shiftLeft_eq]
  show n % 2 ^ 64 * 2 ^ k % 2 ^ 64 = n * 2 ^ k % 2 ^ 64
  rw [Nat.mul_mod, Nat.mod_mod, ← Nat.mul_mod]
section LOG
variable {E : zEv} {D : Nat} {px : String → zM → Prop} {M : zM} {K : zM → Prop} {f : zRow}
theorem lg_pack {mo w how qu b : Nat} (h1 : w < 16) (h2 : how < 16) (h3 : qu < 16) (h4 : b < 65536) (hm : mo < 2 ^ 31) : zlshl (zlshl (zlshl (zlshl (nI mo).toInt64 4 ||| (nI w).toInt64) 4 ||| (nI how).toInt64) 4 ||| (nI qu).toInt64) 16 ||| (nI b).toInt64 = lN ((((mo * 16 + w) * 16 + how) * 16 + qu) * 65536 + b) := by
  rw [nI_l hm, nI_l (n := w) (by omega), nI_l (n := how) (by omega), nI_l (n := qu) (by omega), nI_l (n := b) (by omega)]
  have s4 : (((4 : Int32).toInt64 &&& 63).toBitVec.smod 64).toNat = 4 := by decide +kernel
  have s16 : (((16 : Int32).toInt64 &&& 63).toBitVec.smod 64).toNat = 16 := by decide +kernel
  have e4 : ∀ x, zlshl (lN x) 4 = lN (x * 2 ^ 4) := fun x => lN_shl x _ 4 s4
  have e16 : ∀ x, zlshl (lN x) 16 = lN (x * 2 ^ 16) := fun x => lN_shl x _ 16 s16
  rw [e4, lN_or_sum (k := 4) mo h1, e4, lN_or_sum (k := 4) _ h2, e4, lN_or_sum (k := 4) _ h3, e16, lN_or_sum (k := 16) _ h4]
theorem lg_idx {nx k : Nat} (h : nx < 60) (hk : k < 60) : zrem (((nI nx + 60) - 1) - nI k) 60 = nI ((nx + 59 - k) % 60) := by
  have e : ((nI nx + 60) - 1) - nI k = nI (nx + 59 - k) := by
    rw [show (60 : Int32) = nI 60 from rfl, nI_add, show nx + 60 = (nx + 59) + 1 by omega, nI_pred, pk_sub (by omega)]
  rw [e]
  exact pk_rem (a := nx + 59 - k) (d := 60) (by omega) (by decide) (by decide)
theorem s_X7_read {post : Int32 → zM → Prop} {c k a : Nat} (hc : zIsC c) (hr : cR M c f) (hk : okF f) (hkk : k < gN f) (ha : a ≤ 4) (hp : post (f (72 + 5 * k + a)) M) : zCi E jX7_read D 0 [.ref (c + 8), .int (nI k), .int (nI a)] M post px := by
  have g60 := hk.g.2
  obtain ⟨l1, nx, l2, l3, l4⟩ := hr.2.2.2.2.2
  obtain ⟨mo, w, how, qu, b, b1, b2, b3, b4, b5, e0, e1, e2, e3, e4, ev⟩ := l4 k hkk
  refine e_X7_read hc ?_
  rw [l3, lg_idx l2 (by omega), nI_clamp (n := (nx + 59 - k) % 60) (by omega), ev]
  have sh : ∀ (s : Int32) (d : Nat), ((s.toInt64 &&& 63).toBitVec.smod 64).toNat = d → zlshr (lN ((((mo * 16 + w) * 16 + how) * 16 + qu) * 65536 + b)) s = lN (((((mo * 16 + w) * 16 + how) * 16 + qu) * 65536 + b) / 2 ^ d) := fun s d hs => lN_shr (by omega) _ d hs
  rw [sh 28 28 (by decide +kernel), sh 24 24 (by decide +kernel), sh 20 20 (by decide +kernel), sh 16 16 (by decide +kernel)]
  have m15 : ∀ x, lN x &&& (15 : Int64) = lN (x % 2 ^ 4) := fun x => lN_mask x 4
  have mff : ∀ x, lN x &&& (65535 : Int64) = lN (x % 2 ^ 16) := fun x => lN_mask x 16
  rw [m15, m15, m15, mff, lN_i, lN_i, lN_i, lN_i, lN_i]
  have v0 : ((((mo * 16 + w) * 16 + how) * 16 + qu) * 65536 + b) / 2 ^ 28 = mo := by omega
  have v1 : ((((mo * 16 + w) * 16 + how) * 16 + qu) * 65536 + b) / 2 ^ 24 % 2 ^ 4 = w := by omega
  have v2 : ((((mo * 16 + w) * 16 + how) * 16 + qu) * 65536 + b) / 2 ^ 20 % 2 ^ 4 = how := by omega
  have v3 : ((((mo * 16 + w) * 16 + how) * 16 + qu) * 65536 + b) / 2 ^ 16 % 2 ^ 4 = qu := by omega
  have v4 : ((((mo * 16 + w) * 16 + how) * 16 + qu) * 65536 + b) % 2 ^ 16 = b := by omega
  rw [v0, v1, v2, v3, v4]
  refine ⟨fun z => absurd z (nI_pos (by omega)), fun _ => ⟨fun _ => ⟨pk_in _ _ (show (nx + 59 - k) % 60 < 60 by omega), ?_⟩, fun z => absurd (nI_lt (show k < 60 by omega) (by decide)) z⟩⟩
  have : a = 0 ∨ a = 1 ∨ a = 2 ∨ a = 3 ∨ a = 4 := by omega
  rcases this with rfl | rfl | rfl | rfl | rfl
  · exact ⟨fun _ => by rw [← e0]; exact hp, fun z => absurd rfl z⟩
  · exact ⟨fun z => absurd z (by decide), fun _ => ⟨fun _ => by rw [← e1]; exact hp, fun z => absurd rfl z⟩⟩
  · exact ⟨fun z => absurd z (by decide), fun _ => ⟨fun z => absurd z (by decide), fun _ => ⟨fun _ => by rw [← e2]; exact hp, fun z => absurd rfl z⟩⟩⟩
  · exact ⟨fun z => absurd z (by decide), fun _ => ⟨fun z => absurd z (by decide), fun _ => ⟨fun z => absurd z (by decide), fun _ => ⟨fun _ => by rw [← e3]; exact hp, fun z => absurd rfl z⟩⟩⟩⟩
  · exact ⟨fun z => absurd z (by decide), fun _ => ⟨fun z => absurd z (by decide), fun _ => ⟨fun z => absurd z (by decide), fun _ => ⟨fun z => absurd z (by decide), fun _ => by rw [← e4]; exact hp⟩⟩⟩⟩
theorem s_X12_ofLog {post : Int32 → zM → Prop} {k a : Nat} (hk : k < 60) (ha : a ≤ 4) (hp : post (M.1 1 (72 + 5 * k + a)) M) : zCi E jX12_ofLog D 0 [.ref 0, .int (nI k), .int (nI a)] M post px := by
  refine e_X12_ofLog ?_
  rw [show (72 : Int32) + 5 * nI k + nI a = nI (72 + 5 * k + a) by rw [show (72 : Int32) = nI 72 from rfl, show (5 : Int32) = nI 5 from rfl, pk_mul, nI_add, nI_add], nI_clamp (by omega)]
  exact ⟨pk_in _ _ (show 72 + 5 * k + a < 2070 by omega), hp⟩
theorem Rel.nG (h : Rel M) : M.1 69 1 = nI (gN (M.1 1)) := h.now.2.2.2.2.2.1.trans h.ok.g.1
theorem op_log {x y : Int32} (h : Rel M) (hK : ∀ M', Rel M' → K M') : zCWi E jL_log (D + 20) 1 [.ref 19, .int x, .int y, .ref 18] M (opR E jX12_log (D + 20) [.ref 0, .int x, .int y] K) := by
  have g60 := h.ok.g
  by_cases cy : zr y 0 4
  · obtain ⟨a, -, ha, rfl⟩ := cy.get (by decide) (by decide)
    have ref : ∀ v : Int32, (∀ k, k < gN (M.1 1) → x = nI k → v = M.1 1 (72 + 5 * k + a)) → (¬ zv x (gN (M.1 1)) → v = -2) → opR E jX12_log (D + 20) [.ref 0, .int x, .int (nI a)] K 0 (zupL M 18 0 v.toInt64) := fun v h1 h2 px => by
      have e1 := bl_w4 (M := M) (x := v.toInt64) rfl
      refine e_X12_log (fun M1 em => ?_)
      subst em
      refine s_in_rg (a := 0) (b := 4) (fun _ => z1A (t_X12_log_20 (s_throws0 (z0A (s_X12_in ?_))))) (fun z => absurd cy z)
      have eg : (zup (zupL M 18 0 v.toInt64) 0 0 0).1 1 (10 : Int32).toNatClampNeg = nI (gN (M.1 1)) := by rw [e1]; exact g60.1
      rw [eg]
      by_cases cx : zv x (gN (M.1 1))
      · rw [if_pos ((zv_in (by omega)).mpr cx)]
        obtain ⟨k, hk, rfl⟩ := cx.get (by omega)
        refine z1B (s_X12_ofLog (by omega) ha (t_X12_log_57 ?_))
        exact ok_fin h hK rfl ro.up (by rw [e1]; exact (h1 k hk rfl).symm)
      · rw [if_neg (fun z => cx ((zv_in (by omega)).mp z))]
        refine z0A (t_X12_log_57 ?_)
        exact ok_fin h hK rfl ro.up (h2 cx).symm
    have out : ¬ zv x (gN (M.1 1)) → ∀ M4, M4 = zupL M 18 (0 : Int32).toNatClampNeg (-2 : Int32).toInt64 → opR E jX12_log (D + 20) [.ref 0, .int x, .int (nI a)] K 0 M4 := fun cx M4 e4 => by
      rw [e4]
      exact ref (-2) (fun k hk ex => absurd (by rw [ex]; exact zv.of hk (by omega)) cx) (fun _ => rfl)
    refine e_L_log (e_X11_log ⟨fun z => absurd z (nI_pos (by omega)), fun _ => ⟨fun _ => ⟨fun z => t_X11_log_38 (out (fun q => q.1 z)), fun z => ⟨fun z2 => ?_, fun z2 => t_X11_log_38 (out (fun q => z2 (by rw [h.nG]; exact q.2)))⟩⟩, fun z => absurd (nI_le ha (by decide)) z⟩⟩)
    rw [h.nG] at z2
    obtain ⟨k, hk, rfl⟩ := zv.get (x := x) (n := gN (M.1 1)) ⟨z, z2⟩ (by omega)
    refine s_X7_read zc61 h.now h.ok hk ha (fun M4 e4 => ?_)
    rw [e4]
    exact ref _ (fun k' hk' ex => by rw [show k' = k from (nI_eq (by omega) (by omega)).mp ex.symm]) (fun q => absurd (zv.of hk (by omega)) q)
  · have bad : opR E jX12_log (D + 20) [.ref 0, .int x, .int y] K 1 M := fun px => e_X12_log (fun M1 e1 => s_in_rg (a := 0) (b := 4) (fun z => absurd z cy) (fun _ => z0B (t_X12_log_20 (s_throws1 (z1B (by rw [e1]; exact bad_end h hK (by decide)))))))
    exact e_L_log (e_X11_log ⟨fun z => t_X11_log_9 ⟨rfl, bad⟩, fun z => ⟨fun z2 => absurd ⟨z, z2⟩ cy, fun _ => t_X11_log_9 ⟨rfl, bad⟩⟩⟩)
/-! led -/
/-- the first k < i with p, as v says it; -1 -/
noncomputable def fstI (p : Nat → Prop) (v : Nat → Int32) : Nat → Int32
  | 0 => -1
  | i + 1 => @ite _ (∃ k, k < i ∧ p k) (Classical.propDecidable _) (fstI p v i) (@ite _ (p i) (Classical.propDecidable _) (v i) (-1))
noncomputable def dwnC (p : Nat → Prop) (g : Nat) : Nat → Int32
  | 0 => 0
  | j + 1 => dwnC p g j + bI (p (g - 1 - j))
noncomputable def dwnL (p : Nat → Prop) (v : Nat → Int32) (g : Nat) : Nat → Int32
  | 0 => -1
  | j + 1 => @ite _ (p (g - 1 - j)) (Classical.propDecidable _) (v (g - 1 - j)) (dwnL p v g j)
theorem sum_rev : ∀ {g : Nat} {h : Nat → Int32}, sumI (fun j => h (g - 1 - j)) g = sumI h g
  | 0, _ => rfl
  | g + 1, h => by
    rw [sum_front, show (fun j => h (g + 1 - 1 - (j + 1))) = (fun j => h (g - 1 - j)) from funext fun j => congrArg h (by omega), sum_rev, sumI, Int32.add_comm, show g + 1 - 1 - 0 = g by omega]
theorem dwnC_eq {p : Nat → Prop} {g : Nat} : ∀ j, dwnC p g j = sumI (fun j => bI (p (g - 1 - j))) j
  | 0 => rfl
  | j + 1 => by rw [dwnC, sumI, dwnC_eq]
theorem dwnC_cnt {p : Nat → Prop} {g : Nat} : dwnC p g g = cntI p g := by
  rw [dwnC_eq]
  exact sum_rev (h := fun j => bI (p j))
theorem fst_no {p : Nat → Prop} {v : Nat → Int32} : ∀ {i : Nat}, (∀ k, k < i → ¬ p k) → fstI p v i = -1
  | 0, _ => rfl
  | i + 1, h => by
    rw [fstI, if_neg (fun ⟨k, h1, h2⟩ => h k (by omega) h2), if_neg (h i (by omega))]
theorem fst_at {p : Nat → Prop} {v : Nat → Int32} {m : Nat} (hm : p m) (hl : ∀ k, k < m → ¬ p k) : ∀ {i : Nat}, m < i → fstI p v i = v m
  | i + 1, h => by
    by_cases c : m = i
    · rw [fstI, if_neg (fun ⟨k, h1, h2⟩ => hl k (by omega) h2), ← c, if_pos hm]
    · rw [fstI, if_pos ⟨m, by omega, hm⟩]
      exact fst_at hm hl (by omega)
theorem dwn_no {p : Nat → Prop} {v : Nat → Int32} {g : Nat} (h : ∀ k, k < g → ¬ p k) : ∀ {j : Nat}, j ≤ g → dwnL p v g j = -1
  | 0, _ => rfl
  | j + 1, hj => by
    rw [dwnL, if_neg (h _ (by omega))]
    exact dwn_no h (by omega)
theorem dwn_at {p : Nat → Prop} {v : Nat → Int32} {g m : Nat} (hm : p m) (hl : ∀ k, k < m → ¬ p k) : ∀ {j : Nat}, j ≤ g → g - j ≤ m → m < g → dwnL p v g j = v m
  | 0, _, h2, h3 => by omega
  | j + 1, h1, h2, h3 => by
    rw [dwnL]
    by_cases c : g - 1 - j = m
    · rw [c, if_pos hm]
    · rw [if_neg (hl _ (by omega))]
      exact dwn_at hm hl (by omega) (by omega) h3
theorem dwn_fst {p : Nat → Prop} {v : Nat → Int32} {g : Nat} : dwnL p v g g = fstI p v g := by
  by_cases c : ∃ k, k < g ∧ p k
  · obtain ⟨m, ⟨h1, h2⟩, h3⟩ := pk_least (fun k => k < g ∧ p k) c
    have hl : ∀ k, k < m → ¬ p k := fun k hk hp => h3 k hk ⟨by omega, hp⟩
    rw [dwn_at h2 hl (Nat.le_refl g) (by omega) h1, fst_at h2 hl h1]
  · have h : ∀ k, k < g → ¬ p k := fun k hk hp => c ⟨k, hk, hp⟩
    rw [dwn_no h (Nat.le_refl g), fst_no h]
theorem cnt_0iff {p : Nat → Prop} {i : Nat} (hi : i ≤ 1000) : cntI p i = 0 ↔ ¬ ∃ k, k < i ∧ p k := by
  have key : ∀ i, ∃ n, n ≤ i ∧ cntI p i = nI n ∧ (n = 0 ↔ ¬ ∃ k, k < i ∧ p k) := by
    intro i
    induction i with
    | zero => exact ⟨0, by omega, rfl, fun _ ⟨k, h, _⟩ => by omega, fun _ => rfl⟩
    | succ i ih =>
      obtain ⟨n, h1, h2, h3⟩ := ih
      by_cases c : p i
      · refine ⟨n + 1, by omega, by rw [← cnt_y c, h2, nI_1], fun z => by omega, fun z => absurd ⟨i, by omega, c⟩ z⟩
      · refine ⟨n, by omega, by rw [← cnt_n c, h2], fun z q => ?_, fun z => h3.mpr (fun ⟨k, q1, q2⟩ => z ⟨k, by omega, q2⟩)⟩
        rcases ex_succ.mp q with q | q
        · exact h3.mp z q
        · exact c q
  obtain ⟨n, h1, h2, h3⟩ := key i
  rw [h2, show (0 : Int32) = nI 0 from rfl, nI_eq (by omega) (by decide)]
  exact h3
theorem op_led {x y : Int32} (h : Rel M) (hK : ∀ M', Rel M' → K M') : zCWi E jL_led (D + 20) 1 [.ref 19, .int x, .int y, .ref 18] M (opR E jX12_led (D + 20) [.ref 0, .int x, .int y] K) := by
  have w5 := h.ok.w
  have g60 := h.ok.g
  refine e_L_led (e_X11_led (s_X11_needWitness h.nW (fun c => ?_) (fun c => ⟨rfl, fun px => ?_⟩)))
  · generalize hp : (fun k => M.1 1 (72 + 5 * k + 1) = x) = p
    generalize hv : (fun k => M.1 1 (72 + 5 * k + 0)) = v
    have ref : opR E jX12_led (D + 20) [.ref 0, .int x, .int y] K 0 (zupL M 18 0 (if y = 0 then cntI p (gN (M.1 1)) else fstI p v (gN (M.1 1))).toInt64) := fun px => by
      generalize hX : (if y = 0 then cntI p (gN (M.1 1)) else fstI p v (gN (M.1 1))) = X
      have e1 := bl_w4 (M := M) (x := X.toInt64) rfl
      refine e_X12_led (fun M1 em => ?_)
      subst em
      refine s_X12_noWitness (n := wN (M.1 1)) (by rw [e1]; exact w5.1) (by omega) (fun _ => s_throws0 (z0A ?_)) (fun z => absurd c z)
      have eg : (zup (zupL M 18 0 X.toInt64) 0 0 0).1 1 (10 : Int32).toNatClampNeg = nI (gN (M.1 1)) := by rw [e1]; exact g60.1
      rw [eg]
      have key := zup_loop (fun j => w_X12_led_36 E (D + 19) (fun b M2 => M2.1 0 0 = 0 ∧ ((0 : Int32) = 0 → M2.2 18 0 = b.toInt64) ∧ K M2) px x y (dwnC p (gN (M.1 1)) j) (dwnL p v (gN (M.1 1)) j) (nI (gN (M.1 1) - j) - 1) (zup (zupL M 18 0 X.toInt64) 0 0 0)) (gN (M.1 1)) (fun j hj ih => ?_) ?_ 0 (by omega)
      · exact key
      · rw [show gN (M.1 1) - j = (gN (M.1 1) - 1 - j) + 1 by omega, nI_pred]
        have h67 : ∀ a b, a = dwnC p (gN (M.1 1)) (j + 1) → b = dwnL p v (gN (M.1 1)) (j + 1) → w_X12_led_67 E (D + 19) (fun b M2 => M2.1 0 0 = 0 ∧ ((0 : Int32) = 0 → M2.2 18 0 = b.toInt64) ∧ K M2) px x y a b (nI (gN (M.1 1) - 1 - j)) (zup (zupL M 18 0 X.toInt64) 0 0 0) := fun a b ha hb => t_X12_led_67 (by
          rw [ha, hb, show nI (gN (M.1 1) - 1 - j) + -1 = nI (gN (M.1 1) - (j + 1)) - 1 by rw [show gN (M.1 1) - (j + 1) = gN (M.1 1) - 1 - j by omega]; exact (Int32.sub_eq_add_neg _ 1).symm]
          exact ih)
        refine t_X12_led_36 ⟨fun z => absurd z (nI_pos (by omega)), fun _ => s_X12_ofLog (a := 1) (by omega) (by decide) ?_⟩
        rw [e1]
        have hpi : p (gN (M.1 1) - 1 - j) ↔ M.1 1 (72 + 5 * (gN (M.1 1) - 1 - j) + 1) = x := by rw [← hp]
        refine ⟨fun z => s_X12_ofLog (a := 0) (by omega) (by decide) (h67 _ _ ?_ ?_), fun z => h67 _ _ ?_ ?_⟩
        · rw [dwnC, bI_t (hpi.mpr z)]
        · rw [dwnL, if_pos (hpi.mpr z), e1, ← hv]
        · rw [dwnC, bI_f (fun q => z (hpi.mp q)), Int32.add_zero]
        · rw [dwnL, if_neg (fun q => z (hpi.mp q))]
      · rw [Nat.sub_self]
        refine t_X12_led_36 ⟨fun _ => ⟨fun z => t_X12_led_83 ?_, fun z => t_X12_led_83 ?_⟩, fun z => absurd (by decide) z⟩
        · exact ok_fin h hK rfl ro.up (by rw [← hX, if_pos z, dwnC_cnt])
        · exact ok_fin h hK rfl ro.up (by rw [← hX, if_neg z, dwn_fst])
    have key := zup_loop (fun i => w_X11_led_22 E (D + 18) (fun r3 M1 => ∀ M4 : zM, M4 = zupL M1 18 (0 : Int32).toNatClampNeg r3.toInt64 → opR E jX12_led (D + 20) [.ref 0, .int x, .int y] K 0 M4) (fun X M9 => X = "java/lang/IndexOutOfBoundsException" ∧ opR E jX12_led (D + 20) [.ref 0, .int x, .int y] K 1 M9) x y (cntI p i) (fstI p v i) (nI i) M) (gN (M.1 1)) (fun i hi ih => ?_) ?_ 0 (by omega)
    · exact key
    · refine t_X11_led_22 (pk_le (gN (M.1 1)) i (fun z => absurd z (by omega)) (fun _ => s_X7_read (a := 1) zc61 h.now h.ok hi (by decide) ?_) h.nG)
      have hpi : p i ↔ M.1 1 (72 + 5 * i + 1) = x := by rw [← hp]
      have h64 : ∀ a b, a = cntI p (i + 1) → b = fstI p v (i + 1) → w_X11_led_64 E (D + 18) (fun r3 M1 => ∀ M4 : zM, M4 = zupL M1 18 (0 : Int32).toNatClampNeg r3.toInt64 → opR E jX12_led (D + 20) [.ref 0, .int x, .int y] K 0 M4) (fun X M9 => X = "java/lang/IndexOutOfBoundsException" ∧ opR E jX12_led (D + 20) [.ref 0, .int x, .int y] K 1 M9) x y a b (nI i) M := fun a b ha hb => t_X11_led_64 (by
        rw [ha, hb, nI_1]
        exact ih)
      have c0 := cnt_0iff (p := p) (i := i) (by omega)
      refine ⟨fun z => h64 _ _ ?_ ?_, fun z => ⟨fun z2 => t_X11_led_59 (h64 _ _ ?_ ?_), fun z2 => s_X7_read (a := 0) zc61 h.now h.ok hi (by decide) (t_X11_led_59 (h64 _ _ ?_ ?_))⟩⟩
      · exact cnt_n (fun q => z (hpi.mp q))
      · rw [fstI]
        by_cases cc : ∃ k, k < i ∧ p k
        · rw [if_pos cc]
        · rw [if_neg cc, if_neg (fun q => z (hpi.mp q)), fst_no (fun k h1 h2 => cc ⟨k, h1, h2⟩)]
      · exact cnt_y (hpi.mpr z)
      · rw [fstI, if_pos (Classical.byContradiction (fun q => z2 (c0.mpr q)))]
      · exact cnt_y (hpi.mpr z)
      · rw [fstI, if_neg (c0.mp z2), if_pos (hpi.mpr z), ← hv]
    · refine t_X11_led_22 (pk_le (gN (M.1 1)) (gN (M.1 1)) (fun _ => ⟨fun z => t_X11_led_81 (fun M4 e4 => ?_), fun z => t_X11_led_81 (fun M4 e4 => ?_)⟩) (fun z => absurd z (by omega)) h.nG)
      · rw [if_pos z] at ref
        rw [e4]; exact ref
      · rw [if_neg z] at ref
        rw [e4]; exact ref
  · exact e_X12_led (fun M1 e1 => s_X12_noWitness (n := wN (M.1 1)) (by rw [e1]; exact w5.1) (by omega) (fun z => absurd z c) (fun _ => s_throws1 (z1B (by rw [e1]; exact bad_end h hK (by decide)))))
end LOG
