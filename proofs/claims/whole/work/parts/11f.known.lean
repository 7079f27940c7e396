/-! ===== tells, dark, what a thing is known by ===== -/
section TELLS
variable {E : zEv} {D : Nat} {px : String → zM → Prop} {M : zM} {K : zM → Prop} {f : zRow}
theorem op_tells {x : Int32} (h : Rel M) (hK : ∀ M', Rel M' → K M') : zCWi E jL_tells (D + 20) 1 [.ref 19, .int x, .ref 18] M (opR E jX12_tells (D + 20) [.ref 0, .int x] K) := by
  have q8 := h.ok.q
  have t64 := two_t h.ok
  have t0 : 0 < 2 ^ tN (M.1 1) := Nat.two_pow_pos _
  generalize hf : M.1 1 = f at *
  have okf : okF f := hf ▸ h.ok
  have lkf : lawK f := hf ▸ h.lk
  have now : cR M 61 f := hf ▸ h.now
  have lw : lawR M 36 f := hf ▸ h.law
  have nQ : M.1 61 7 = nI (qN f) := hf ▸ h.nQ
  refine e_L_tells (e_X11_tells (s_X11_needQuestion nQ (fun c => ?_) (fun c => ⟨rfl, fun px => ?_⟩)))
  · obtain ⟨q, hq, rfl⟩ := c.get (by omega)
    have pin : ∀ s, s < 2 ^ tN f → vp_in (nI (64 * q + s)) 512 := fun s hs => pk_in (64 * q + s) _ (by omega)
    have ref : ∀ M1, zpi M1 = zpi M → opR E jX12_tells (D + 20) [.ref 0, .int (nI q)] K 0 (zupL M1 18 0 (cntI (fun s => ptF f q s = s) (2 ^ tN f)).toInt64) := fun M1 z1 px => by
      have e1 := bl_w4 (x := (cntI (fun s => ptF f q s = s) (2 ^ tN f)).toInt64) z1
      rw [hf] at e1
      refine e_X12_tells (fun M2 em => ?_)
      subst em
      refine s_X12_noQuestion (n := qN f) (by rw [e1]; exact q8.1) (by omega) (fun _ => s_throws0 (z0A (s_X12_laysWorlds e1 okf lkf (fun M7 hz r7 => ?_)))) (fun z => absurd c z)
      have hm : M7.1 1 = f := by rw [r7.w, e1]
      have eqv : cntI (fun s => ptF f q s = s) (2 ^ tN f) = cntI (fun s => ∀ k, k < s → ¬ alk f q s k) (2 ^ tN f) := cnt_c (fun s _ => pt_self.trans ⟨fun y k hk z => y k hk z.symm, fun y k hk z => y k hk z.symm⟩)
      refine zup_loop (fun s => w_X12_tells_28 E (D + 19) (fun b M2 => M2.1 0 0 = 0 ∧ ((0 : Int32) = 0 → M2.2 18 0 = b.toInt64) ∧ K M2) px (nI q) (cntI (fun s => ∀ k, k < s → ¬ alk f q s k) s) (nI s) M7) (2 ^ tN f) (fun s hs ih => ?_) ?_ 0 (Nat.zero_le _)
      · refine t_X12_tells_28 (s_X12_allThings2 hm okf (pk_lt (2 ^ tN f - 1) s (fun z => absurd z (by omega)) (fun _ => ?_)))
        have h77 : ∀ v, v = bI (∀ k, k < s → ¬ alk f q s k) → w_X12_tells_77 E (D + 19) (fun b M2 => M2.1 0 0 = 0 ∧ ((0 : Int32) = 0 → M2.2 18 0 = b.toInt64) ∧ K M2) px (nI q) (cntI (fun s => ∀ k, k < s → ¬ alk f q s k) s) (nI s) v M7 := fun v hv => by
          refine t_X12_tells_77 ⟨fun z => t_X12_tells_88 ?_, fun z => t_X12_tells_88 ?_⟩
          · rw [nI_1, cnt_0 (p := fun s => ∀ k, k < s → ¬ alk f q s k) (bI_0.mp (hv.symm.trans z))]; exact ih
          · rw [nI_1, cnt_y (p := fun s => ∀ k, k < s → ¬ alk f q s k) (bI_n0.mp (fun y => z (hv.trans y)))]; exact ih
        have h00 : bI (∀ k, k < 0 → ¬ alk f q s k) = 1 := bI_t (fun k hk => absurd hk (by omega))
        have key := zup_loop (fun j => w_X12_tells_42 E (D + 19) (fun b M2 => M2.1 0 0 = 0 ∧ ((0 : Int32) = 0 → M2.2 18 0 = b.toInt64) ∧ K M2) px (nI q) (cntI (fun s => ∀ k, k < s → ¬ alk f q s k) s) (nI s) (bI (∀ k, k < j → ¬ alk f q s k)) (nI j) M7) s (fun j hj ihj => ?_) ?_ 0 (by omega)
        · rw [h00] at key
          exact key
        · have nx : ∀ v, v = bI (∀ k, k < j + 1 → ¬ alk f q s k) → w_X12_tells_69 E (D + 19) (fun b M2 => M2.1 0 0 = 0 ∧ ((0 : Int32) = 0 → M2.2 18 0 = b.toInt64) ∧ K M2) px (nI q) (cntI (fun s => ∀ k, k < s → ¬ alk f q s k) s) (nI s) (nI j) v M7 := fun v hv => t_X12_tells_69 (by rw [nI_1, hv]; exact ihj)
          refine t_X12_tells_42 (pk_le s j (fun z => absurd z (by omega)) (fun _ => ⟨fun z => h77 _ ?_, fun z => s_X12_alikeBy hm okf hz hq hs (by omega) ⟨fun y => nx _ ?_, fun y => nx _ ?_⟩⟩))
          · rw [z]
            exact (bI_f (fun y => bI_0.mp z (fun k hk => y k (by omega)))).symm
          · exact (bI_f (fun w => w j (by omega) (bI_n0.mp y))).symm
          · exact (bI_t (fun k hk => by
              by_cases ck : k = j
              · rw [ck]; exact bI_0.mp y
              · exact bI_n0.mp z k (by omega))).symm
        · exact t_X12_tells_42 (pk_le s s (fun _ => h77 _ rfl) (fun z => absurd z (by omega)))
      · refine t_X12_tells_28 (s_X12_allThings2 hm okf (pk_lt (2 ^ tN f - 1) (2 ^ tN f) (fun _ => ?_) (fun z => absurd z (by omega))))
        exact ok_fin h hK z1 r7.ro eqv.symm
    refine e_X10_partsOf (s_X10_weigh now okf lw hq (fun M1 a1 a2 a3 a4 a5 a6 => ?_))
    have cr := cR_wl zc61 a6 okf now
    refine zup_loop (fun s => w_X10_partsOf_13 E (D + 17) (fun r5 M3 => ∀ M4 : zM, M4 = zupL M3 18 (0 : Int32).toNatClampNeg r5.toInt64 → opR E jX12_tells (D + 20) [.ref 0, .int (nI q)] K 0 M4) (fun X M9 => X = "java/lang/IndexOutOfBoundsException" ∧ opR E jX12_tells (D + 20) [.ref 0, .int (nI q)] K 1 M9) (nI q) (cntI (fun s => ptF f q s = s) s) (nI s) M1) (2 ^ tN f) (fun s hs ih => ?_) ?_ 0 (Nat.zero_le _)
    · refine t_X10_partsOf_13 (s_worldCount zc61 cr okf (pk_le (2 ^ tN f) s (fun z => absurd z (by omega)) (fun _ => ?_)))
      rw [show nI q * 64 + nI s = nI (64 * q + s) by rw [show (64 : Int32) = nI 64 from rfl, pk_mul, nI_add, Nat.mul_comm], nI_clamp (by omega), a2 s hs]
      have pl := pt_le (f := f) (q := q) (s := s)
      refine ⟨pin s hs, ?_⟩
      refine pk_eq (ptF f q s) s (fun z => t_X10_partsOf_42 ?_) (fun z => t_X10_partsOf_42 ?_) |> fun y => ⟨y.2, y.1⟩
      · rw [nI_1, cnt_y (p := fun s => ptF f q s = s) z]; exact ih
      · rw [nI_1, cnt_n (p := fun s => ptF f q s = s) z]; exact ih
    · refine t_X10_partsOf_13 (s_worldCount zc61 cr okf (pk_le (2 ^ tN f) (2 ^ tN f) (fun _ M4 e4 => ?_) (fun z => absurd z (by omega))))
      rw [e4]
      exact ref M1 a6.pi
  · exact e_X12_tells (fun M1 e1 => s_X12_noQuestion (n := qN f) (by rw [e1, zup_o (by decide), hf]; exact q8.1) (by omega) (fun z => absurd z c) (fun _ => s_throws1 (z1B (by rw [e1]; exact bad_end h hK (by decide)))))
/-! sets of questions as numbers -/
theorem msk_N {p : Nat → Prop} : ∀ {n : Nat}, n ≤ 8 → isN (mskF p n) (2 ^ n - 1)
  | 0, _ => ⟨0, by omega, rfl⟩
  | n + 1, h => by
    obtain ⟨a, ha, ea⟩ := msk_N (p := p) (n := n) (by omega)
    have h0 := Nat.two_pow_pos n
    have h1 : 2 ^ (n + 1) = 2 * 2 ^ n := by rw [Nat.pow_succ, Nat.mul_comm]
    by_cases c : p n
    · rw [← msk_y c, ea, all_cnt (by omega), fa_or]
      have := Nat.or_lt_two_pow (x := a) (y := 2 ^ n) (n := n + 1) (by omega) (by omega)
      exact ⟨a ||| 2 ^ n, by omega, rfl⟩
    · rw [← msk_n c, ea]
      exact ⟨a, by omega, rfl⟩
noncomputable def pdN (f : zRow) (a b : Nat) : Nat := tn (mskF (fun q => ¬ alk f q a b) (qN f))
theorem pd_eq (hk : okF f) (a b : Nat) : mskF (fun q => ¬ alk f q a b) (qN f) = nI (pdN f a b) ∧ pdN f a b < 2 ^ qN f ∧ pdN f a b < 256 := by
  have q8 := hk.q.2
  have hp : 2 ^ qN f ≤ 2 ^ 8 := Nat.pow_le_pow_right (by decide) q8
  have h8 : (2 : Nat) ^ 8 = 256 := by decide
  have h0 := Nat.two_pow_pos (qN f)
  have h1 := msk_N (p := fun q => ¬ alk f q a b) q8
  have h2 := h1.le (by omega)
  exact ⟨h1.eq (by omega), by unfold pdN; omega, by unfold pdN; omega⟩
theorem pd_bit (hk : okF f) {a b i : Nat} (hi : i < 32) : (pdN f a b).testBit i = true ↔ i < qN f ∧ ¬ alk f i a b := by
  have q8 := hk.q.2
  rw [← bt_nI hi, ← (pd_eq hk a b).1, bt_msk (by omega)]
theorem pd_0 (hk : okF f) {a b : Nat} : pdN f a b = 0 ↔ ∀ q, q < qN f → alk f q a b := by
  have q8 := hk.q.2
  obtain ⟨e1, e2, e3⟩ := pd_eq hk a b
  have : nI (pdN f a b) = 0 ↔ pdN f a b = 0 := nI_eq (b := 0) (by omega) (by decide)
  rw [← this, ← e1, msk_zero (by omega)]
  exact ⟨fun h q hq => Classical.byContradiction (h q hq), fun h q hq z => z (h q hq)⟩
theorem pd_symm (hk : okF f) {a b : Nat} : pdN f a b = pdN f b a := by
  unfold pdN
  rw [msk_c (p := fun q => ¬ alk f q a b) (q := fun q => ¬ alk f q b a) (fun q _ => ⟨fun z y => z (alk.symm y), fun z y => z (alk.symm y)⟩)]
/-- the class: all questions weighed -/
def ptW (M : zM) (f : zRow) (n : Nat) : Prop := ∀ q s, q < n → s < 2 ^ tN f → M.1 50 (64 * q + s) = nI (ptF f q s)
theorem s_X10_partedBy {post : Int32 → zM → Prop} {a b : Nat} (hk : okF f) (hw : ptW M f (qN f)) (ha : a < 2 ^ tN f) (hb : b < 2 ^ tN f) (hp : post (nI (pdN f a b)) M) : zCi E jX10_partedBy D 0 [.ref 48, .int (nI (qN f)), .int (nI a), .int (nI b)] M post px := by
  have q8 := hk.q.2
  have t64 := two_t hk
  have e64 : ∀ q s : Nat, nI q * 64 + nI s = nI (64 * q + s) := fun q s => by rw [show (64 : Int32) = nI 64 from rfl, pk_mul, nI_add, Nat.mul_comm]
  refine e_X10_partedBy (zup_loop (fun i => w_X10_partedBy_6 E D post px (nI (qN f)) (nI a) (nI b) (mskF (fun q => ¬ alk f q a b) i) (nI i) M) (qN f) (fun i hi ih => ?_) ?_ 0 (by omega))
  · have p1 := pt_le (f := f) (q := i) (s := a)
    have p2 := pt_le (f := f) (q := i) (s := b)
    refine t_X10_partedBy_6 (pk_le (qN f) i (fun z => absurd z (by omega)) (fun _ => ?_))
    rw [e64, e64, nI_clamp (n := 64 * i + a) (by omega), nI_clamp (n := 64 * i + b) (by omega), hw i a hi ha, hw i b hi hb]
    refine ⟨pk_in _ _ (show 64 * i + a < 512 by omega), pk_in _ _ (show 64 * i + b < 512 by omega), ?_⟩
    refine pk_eq (ptF f i a) (ptF f i b) (fun z => t_X10_partedBy_48 ?_) (fun z => t_X10_partedBy_48 ?_)
    · rw [nI_1, msk_n (p := fun q => ¬ alk f q a b) (fun y => y (pt_iff.mp z))]; exact ih
    · rw [nI_1, msk_y (p := fun q => ¬ alk f q a b) (fun y => z (pt_iff.mpr y))]; exact ih
  · refine t_X10_partedBy_6 (pk_le (qN f) (qN f) (fun _ => ?_) (fun z => absurd z (by omega)))
    rw [(pd_eq hk a b).1]
    exact hp
theorem s_X12_partedBy {post : Int32 → zM → Prop} {a b : Nat} (hf : M.1 1 = f) (hk : okF f) (hz : rzW M f) (ha : a < 2 ^ tN f) (hb : b < 2 ^ tN f) (hp : post (nI (pdN f a b)) M) : zCi E jX12_partedBy (D + 2) 0 [.ref 0, .int (nI a), .int (nI b)] M post px := by
  have q8 := hk.q
  refine e_X12_partedBy (zup_loop (fun i => w_X12_partedBy_5 E (D + 1) post px (nI a) (nI b) (mskF (fun q => ¬ alk f q a b) i) (nI i) M) (qN f) (fun i hi ih => ?_) ?_ 0 (by omega))
  · refine t_X12_partedBy_5 (e_X12_questions (pk_le (qN f) i (fun z => absurd z (by omega)) (fun _ => s_X12_alikeBy hf hk hz hi ha hb ⟨fun z => t_X12_partedBy_34 ?_, fun z => t_X12_partedBy_34 ?_⟩) (by rw [hf]; exact q8.1)))
    · rw [nI_1, msk_y (p := fun q => ¬ alk f q a b) (bI_0.mp z)]; exact ih
    · rw [nI_1, msk_0 (p := fun q => ¬ alk f q a b) (fun y => y (bI_n0.mp z))]; exact ih
  · refine t_X12_partedBy_5 (e_X12_questions (pk_le (qN f) (qN f) (fun _ => ?_) (fun z => absurd z (by omega)) (by rw [hf]; exact q8.1)))
    rw [(pd_eq hk a b).1]
    exact hp
theorem nar0 : vp_nar .boolean 0 = 0 := rfl
theorem nar1 : vp_nar .boolean 1 = 1 := rfl
abbrev mustF (f : zRow) (t S : Nat) : Prop := ∃ a b, a < 2 ^ tN f ∧ b < 2 ^ tN f ∧ a.testBit t = true ∧ b.testBit t = false ∧ pdN f a b = S
theorem has_N {x t : Nat} (ht : t < 32) : zhas (nI x) (nI t) ↔ x.testBit t = true := by rw [has_iff ht, bt_nI ht]
theorem s_X12_laysMusts {post : zM → Prop} {t : Nat} (hf : M.1 1 = f) (hk : okF f) (hz : rzW M f) (ht : t < 6) (hp : ∀ M', (∀ S, S < 256 → M'.1 13 S = bI (mustF f t S)) → (∀ o, o ≠ 13 → M'.1 o = M.1 o) → M'.2 = M.2 → post M') : zCv E jX12_laysMusts (D + 3) 0 [.ref 0, .int (nI t)] M post px := by
  have t0 : 0 < 2 ^ tN f := Nat.two_pow_pos _
  have t64 := two_t hk
  -- pairs behind (i, j)
  have loop : ∀ M0, (∀ S, S < 256 → M0.1 13 S = 0) → (∀ o, o ≠ 13 → M0.1 o = M.1 o) → M0.2 = M.2 → w_X12_laysMusts_24 E (D + 2) post px (nI t) 0 M0 := fun M0 z0 o0 l0 => by
    refine zup_loop (fun i => ∀ M', (∀ S, S < 256 → M'.1 13 S = bI (∃ a b, a < i ∧ b < 2 ^ tN f ∧ a.testBit t = true ∧ b.testBit t = false ∧ pdN f a b = S)) → (∀ o, o ≠ 13 → M'.1 o = M.1 o) → M'.2 = M.2 → w_X12_laysMusts_24 E (D + 2) post px (nI t) (nI i) M') (2 ^ tN f) (fun i hi ih M' a1 a2 a3 => ?_) (fun M' a1 a2 a3 => ?_) 0 (Nat.zero_le _) M0 (fun S hS => by rw [z0 S hS]; exact (bI_f (fun ⟨a, b, h1, _⟩ => by omega)).symm) o0 l0
    · have hm : M'.1 1 = f := by rw [a2 1 (by decide), hf]
      refine t_X12_laysMusts_24 (s_X12_allThings2 hm hk (pk_lt (2 ^ tN f - 1) i (fun z => absurd z (by omega)) (fun _ => ?_)))
      refine zup_loop (fun j => ∀ M2, (∀ S, S < 256 → M2.1 13 S = bI (∃ a b, (a < i ∨ (a = i ∧ b < j)) ∧ b < 2 ^ tN f ∧ a.testBit t = true ∧ b.testBit t = false ∧ pdN f a b = S)) → (∀ o, o ≠ 13 → M2.1 o = M.1 o) → M2.2 = M.2 → w_X12_laysMusts_34 E (D + 2) post px (nI t) (nI i) (nI j) M2) (2 ^ tN f) (fun j hj ihj M2 b1 b2 b3 => ?_) (fun M2 b1 b2 b3 => ?_) 0 (Nat.zero_le _) M' (fun S hS => by
        rw [a1 S hS]
        exact bI_c ⟨fun ⟨a, b, h1, h2⟩ => ⟨a, b, Or.inl h1, h2⟩, fun ⟨a, b, h1, h2⟩ => ⟨a, b, by omega, h2⟩⟩) a2 a3
      · have hm2 : M2.1 1 = f := by rw [b2 1 (by decide), hf]
        have hz2 : rzW M2 f := fun q s v h1 h2 h3 => by rw [b2 11 (by decide)]; exact hz q s v h1 h2 h3
        have skip : ¬ (i.testBit t = true ∧ j.testBit t = false) → w_X12_laysMusts_70 E (D + 2) post px (nI t) (nI i) (nI j) M2 := fun hn => t_X12_laysMusts_70 (by
          rw [nI_1]
          refine ihj M2 (fun S hS => ?_) b2 b3
          rw [b1 S hS]
          refine bI_c ⟨fun ⟨a, b, h1, h2⟩ => ⟨a, b, by omega, h2⟩, fun ⟨a, b, h1, h2⟩ => ⟨a, b, ?_, h2⟩⟩
          by_cases c : a = i ∧ b = j
          · obtain ⟨rfl, rfl⟩ := c
            exact absurd ⟨h2.2.1, h2.2.2.1⟩ hn
          · omega)
        refine t_X12_laysMusts_34 (s_X12_allThings2 hm2 hk (pk_lt (2 ^ tN f - 1) j (fun z => absurd z (by omega)) (fun _ => s_X12_has ?_)))
        by_cases c1 : zhas (nI i) (nI t)
        · rw [if_pos c1]
          refine z1B (s_X12_has ?_)
          have hi1 := (has_N (by omega)).mp c1
          by_cases c2 : zhas (nI j) (nI t)
          · rw [if_pos c2]
            exact z1A (skip (fun q => by rw [(has_N (by omega)).mp c2] at q; exact absurd q.2 (by decide)))
          · rw [if_neg c2]
            have hj0 : j.testBit t = false := Bool.eq_false_iff.mpr (fun y => c2 ((has_N (by omega)).mpr y))
            obtain ⟨p1, p2, p3⟩ := pd_eq hk i j
            refine z0B (s_X12_partedBy hm2 hk hz2 hi hj ⟨pk_in _ _ p3, fun M24 e24 => t_X12_laysMusts_70 ?_⟩)
            rw [nI_clamp (by omega), nar1] at e24
            rw [nI_1]
            refine ihj M24 (fun S hS => ?_) (fun o ho => by rw [e24, zup_o ho]; exact b2 o ho) (by rw [e24, zup_L]; exact b3)
            by_cases cS : S = pdN f i j
            · rw [cS, e24, zup_s]
              exact (bI_t ⟨i, j, Or.inr ⟨rfl, by omega⟩, hj, hi1, hj0, rfl⟩).symm
            · rw [e24, zup_n (Or.inr cS), b1 S hS]
              refine bI_c ⟨fun ⟨a, b, h1, h2⟩ => ⟨a, b, by omega, h2⟩, fun ⟨a, b, h1, h2⟩ => ⟨a, b, ?_, h2⟩⟩
              by_cases c : a = i ∧ b = j
              · obtain ⟨rfl, rfl⟩ := c
                exact absurd h2.2.2.2.symm cS
              · omega
        · rw [if_neg c1]
          exact z0A (skip (fun q => c1 ((has_N (by omega)).mpr q.1)))
      · have hm2 : M2.1 1 = f := by rw [b2 1 (by decide), hf]
        refine t_X12_laysMusts_34 (s_X12_allThings2 hm2 hk (pk_lt (2 ^ tN f - 1) (2 ^ tN f) (fun _ => ?_) (fun z => absurd z (by omega))))
        rw [nI_1]
        refine ih M2 (fun S hS => ?_) b2 b3
        rw [b1 S hS]
        exact bI_c ⟨fun ⟨a, b, h1, h2⟩ => ⟨a, b, by omega, h2⟩, fun ⟨a, b, h1, h2⟩ => ⟨a, b, by omega, h2⟩⟩
    · have hm : M'.1 1 = f := by rw [a2 1 (by decide), hf]
      exact t_X12_laysMusts_24 (s_X12_allThings2 hm hk (pk_lt (2 ^ tN f - 1) (2 ^ tN f) (fun _ => hp M' a1 a2 a3) (fun z => absurd z (by omega))))
  refine e_X12_laysMusts (zup_loop (fun i => ∀ M', (∀ S, S < i → M'.1 13 S = 0) → (∀ o, o ≠ 13 → M'.1 o = M.1 o) → M'.2 = M.2 → w_X12_laysMusts_2 E (D + 2) post px (nI t) (nI i) M') 256 (fun i hi ih M' a1 a2 a3 => ?_) (fun M' a1 a2 a3 => ?_) 0 (by omega) M (fun S hS => absurd hS (by omega)) (fun _ _ => rfl) rfl)
  · refine t_X12_laysMusts_2 (pk_le 256 i (fun z => absurd z (by omega)) (fun _ => ⟨pk_in i _ hi, fun M6 e6 => ?_⟩))
    rw [nI_clamp (by omega), nar0] at e6
    rw [nI_1]
    refine ih M6 (fun S hS => ?_) (fun o ho => by rw [e6, zup_o ho]; exact a2 o ho) (by rw [e6, zup_L]; exact a3)
    by_cases c : S = i
    · rw [c, e6, zup_s]
    · rw [e6, zup_n (Or.inr c)]; exact a1 S (by omega)
  · exact t_X12_laysMusts_2 (pk_le 256 256 (fun _ => loop M' a1 a2 a3) (fun z => absurd z (by omega)))
end TELLS
