/-! ===== all rows, in order: by places and by figures ===== -/
def extL (n : Nat) : Nat → List Nat → List (List Nat)
  | 0, pre => [pre]
  | k + 1, pre => (List.range n).flatMap (fun w => if pre.contains w then [] else extL n k (pre ++ [w]))
def dgt (n x k : Nat) : Nat := x / 5 ^ (n - 1 - k) % 5
def dnN (x : Nat) : Nat → Nat
  | 0 => 0
  | j + 1 => dnN x j ||| 2 ^ (x / 5 ^ j % 5)
def digs (n x : Nat) : List Nat := (List.range n).map (dgt n x)
def decP (n x : Nat) : Option (List Nat) := if dnN x n = 2 ^ n - 1 then some (digs n x) else none
theorem perms_eq : ∀ n : Fin 6, extL n.val n.val [] = (List.range (5 ^ n.val)).filterMap (decP n.val) := by decide +kernel
theorem perms_in : ∀ n : Fin 6, ∀ r ∈ (List.range (5 ^ n.val)).filterMap (decP n.val), ∀ k : Fin n.val, r.getD k.val 0 < n.val := by decide +kernel
abbrev apS : Type := Option (Nat × Nat × List Nat)
abbrev lf (r : List Nat) : Nat → Nat := fun k => r.getD k 0
noncomputable def stp (sh ch : List Nat → Nat) (S : apS) (r : List Nat) : apS := match S with
  | none => some (sh r, ch r, r)
  | some (s0, c0, r0) => if s0 < sh r then some (s0, c0, r0) else if sh r < s0 ∨ ch r < c0 then some (sh r, ch r, r) else some (s0, c0, r0)
section APART
variable {E : zEv} {D : Nat} {px : String → zM → Prop} {M : zM} {K : zM → Prop} {f : zRow}
def cA (M : zM) (n : Nat) : apS → Prop
  | none => M.1 53 2 = -1
  | some (s, c, r) => M.1 53 2 = nI s ∧ M.1 53 3 = nI c ∧ (∀ k, k < n → M.1 54 k = nI (lf r k)) ∧ s ≤ 100 ∧ c ≤ 100
def c35 (M' M : zM) : Prop := (∀ o, o ≠ 53 → o ≠ 54 → o ≠ 55 → M'.1 o = M.1 o) ∧ M'.2 = M.2
theorem c35.refl {M : zM} : c35 M M := ⟨fun _ _ _ _ => rfl, rfl⟩
theorem c35.trans {M1 M2 M3 : zM} (h : c35 M1 M2) (h2 : c35 M2 M3) : c35 M1 M3 := ⟨fun o a b c => (h.1 o a b c).trans (h2.1 o a b c), h.2.trans h2.2⟩
theorem c35.up {M : zM} {o j : Nat} {v : Int32} (h : 53 ≤ o) (h2 : o ≤ 55) : c35 (zup M o j v) M := ⟨fun _ _ _ _ => zup_o (by omega), rfl⟩
theorem c35.pi {M' M : zM} (h : c35 M' M) : zpi M' = zpi M := zpi_of fun o j hi => ⟨by
  rw [h.1 o (by rintro rfl; cases hi) (by rintro rfl; cases hi) (by rintro rfl; cases hi)], by rw [h.2]⟩
theorem sh_le {T : Nat → Prop} {n : Nat} {r : Nat → Nat} (hn : n ≤ 5) : shN T n r ≤ 5 := by
  have := cN_le (fun k => ¬ (T (r k) ↔ T (r (k + 1)))) (n - 1)
  unfold shN
  omega
theorem chg_le {n : Nat} {r : Nat → Nat} (hn : n ≤ 5) : chgN f n r ≤ 25 := by
  have h1 := smN_le (g := fun a => cN (fun j => ¬ plc f (r a) ≤ plc f (r (a + 1 + j))) (n - (a + 1))) (b := 5) (n := n) (fun a _ => by
    have := cN_le (fun j => ¬ plc f (r a) ≤ plc f (r (a + 1 + j))) (n - (a + 1))
    exact Nat.le_trans this (by omega))
  unfold chgN
  omega
theorem s_X0_changesTo {post : Int32 → zM → Prop} {r : Nat → Nat} (hr : cR M 61 f) (hk : okF f) (h55 : ∀ k, k < wN f → M.1 55 k = nI (r k) ∧ r k < wN f) (hp : post (nI (chgN f (wN f) r)) M) : zCi E jX0_changesTo D 0 [.ref 53, .ref 62] M post px := by
  have w5 := hk.w
  have hn : M.1 62 6 = nI (wN f) := hr.1.1.trans w5.1
  have hpl : ∀ v, v < wN f → M.1 67 v = nI (plc f v) := fun v hv => (hr.2.1 v hv).2.2.2.2.1.trans (hk.plE hv).1
  refine e_X0_changesTo (zup_loop (fun i => w_X0_changesTo_4 E D post px (nI (smN (fun a => cN (fun j => ¬ plc f (r a) ≤ plc f (r (a + 1 + j))) (wN f - (a + 1))) i)) (nI i) M) (wN f) (fun i hi ih => ?_) ?_ 0 (by omega))
  · refine t_X0_changesTo_4 (pk_le (wN f) i (fun z => absurd z (by omega)) (fun _ => ?_) hn)
    rw [nI_1]
    have key := zup_loop (fun j => w_X0_changesTo_17 E D post px (nI (smN (fun a => cN (fun j => ¬ plc f (r a) ≤ plc f (r (a + 1 + j))) (wN f - (a + 1))) i + cN (fun j => ¬ plc f (r i) ≤ plc f (r (i + 1 + j))) j)) (nI i) (nI (i + 1 + j)) M) (wN f - (i + 1)) (fun j hj ihj => ?_) ?_ 0 (by omega)
    · exact key
    · obtain ⟨a1, a2⟩ := h55 i hi
      obtain ⟨b1, b2⟩ := h55 (i + 1 + j) (by omega)
      have := hk.plE a2
      have := hk.plE b2
      refine t_X0_changesTo_17 (pk_le (wN f) (i + 1 + j) (fun z => absurd z (by omega)) (fun _ => ?_) hn)
      rw [nI_clamp (n := i) (by omega), nI_clamp (n := i + 1 + j) (by omega), a1, b1, nI_clamp (n := r i) (by omega), nI_clamp (n := r (i + 1 + j)) (by omega), hpl _ a2, hpl _ b2]
      have h55' : ∀ v, v = cN (fun j => ¬ plc f (r i) ≤ plc f (r (i + 1 + j))) (j + 1) → w_X0_changesTo_55 E D post px (nI (smN (fun a => cN (fun j => ¬ plc f (r a) ≤ plc f (r (a + 1 + j))) (wN f - (a + 1))) i + v)) (nI i) (nI (i + 1 + j)) M := fun v hv => t_X0_changesTo_55 (by
        rw [nI_1, hv]
        exact ihj)
      refine ⟨pk_in i _ (by omega), pk_in _ _ (show r i < 5 by omega), pk_in _ _ (show i + 1 + j < 5 by omega), pk_in _ _ (show r (i + 1 + j) < 5 by omega), pk_le (plc f (r i)) (plc f (r (i + 1 + j))) (fun z => h55' _ ?_) (fun z => ?_)⟩
      · rw [cN, if_neg (fun q => q z)]; rfl
      · rw [nI_1, Nat.add_assoc]
        exact h55' _ (by rw [cN, if_pos (by omega)])
    · refine t_X0_changesTo_17 (pk_le (wN f) (i + 1 + (wN f - (i + 1))) (fun _ => ?_) (fun z => absurd z (by omega)) hn)
      rw [nI_1]
      exact ih
  · exact t_X0_changesTo_4 (pk_le (wN f) (wN f) (fun _ => hp) (fun z => absurd z (by omega)) hn)
theorem s_X0_weighTried {post : zM → Prop} {q : Nat} {S : apS} {r : List Nat} (hr : cR M 61 f) (hk : okF f) (hS : cA M (wN f) S) (h55 : ∀ k, k < wN f → M.1 55 k = nI (lf r k) ∧ lf r k < wN f) (hp : ∀ M', cA M' (wN f) (stp (fun r => shN (TqF f q) (wN f) (lf r)) (fun r => chgN f (wN f) (lf r)) S r) → M'.1 55 = M.1 55 → c35 M' M → post M') : zCv E jX0_weighTried (D + 1) 0 [.ref 53, .ref 62, .int (mskF (TqF f q) (wN f))] M post px := by
  have w5 := hk.w
  have hn : M.1 62 6 = nI (wN f) := hr.1.1.trans w5.1
  have sl := sh_le (T := TqF f q) (r := lf r) w5.2
  have cl := chg_le (f := f) (r := lf r) w5.2
  refine e_X0_weighTried ?_
  rw [hn]
  refine s_X0_sharedIn (r := lf r) (a := 55) (nn := 5) rfl rfl w5.2 h55 ?_
  have h62 : (stp (fun r => shN (TqF f q) (wN f) (lf r)) (fun r => chgN f (wN f) (lf r)) S r = some (shN (TqF f q) (wN f) (lf r), chgN f (wN f) (lf r), r)) → w_X0_weighTried_62 E D post px (nI (shN (TqF f q) (wN f) (lf r))) (nI (chgN f (wN f) (lf r))) M := fun hs => t_X0_weighTried_62 (fun M1 e1 M3 e3 M5 e5 => t_X0_weighTried_87 (by
    have x3 : M3.1 55 = M.1 55 := by rw [e3, zup_o (by decide), e1, zup_o (by decide)]
    refine hp M5 ?_ (by rw [e5, zrow_o (by decide), x3]) ⟨fun o h1 h2 h3 => by rw [e5, zrow_o h2, e3, zup_o h1, e1, zup_o h1], by rw [e5, zrow_L, e3, zup_L, e1, zup_L]⟩
    rw [hs]
    refine ⟨?_, ?_, fun k hk' => ?_, by omega, by omega⟩
    · rw [e5, zrow_o (by decide), e3, zup_n (Or.inr (by decide)), e1, zup_s]
    · rw [e5, zrow_o (by decide), e3, zup_s]
    · rw [e5, zrow_row, n0, n5, cpy0 (by omega), x3]
      exact (h55 k hk').1))
  cases S with
  | none =>
    have hS' : M.1 53 2 = -1 := hS
    have x30 : w_X0_weighTried_30 E D post px (nI (shN (TqF f q) (wN f) (lf r))) M := t_X0_weighTried_30 (s_X0_changesTo hr hk h55 ⟨fun _ => h62 rfl, fun z => absurd hS' z⟩)
    exact ⟨fun _ => x30, fun z => absurd hS' z⟩
  | some t =>
    obtain ⟨s0, c0, r0⟩ := t
    obtain ⟨k1, k2, k3, k4, k5⟩ := hS
    rw [k1]
    have es : stp (fun r => shN (TqF f q) (wN f) (lf r)) (fun r => chgN f (wN f) (lf r)) (some (s0, c0, r0)) r = if s0 < shN (TqF f q) (wN f) (lf r) then some (s0, c0, r0) else if shN (TqF f q) (wN f) (lf r) < s0 ∨ chgN f (wN f) (lf r) < c0 then some (shN (TqF f q) (wN f) (lf r), chgN f (wN f) (lf r), r) else some (s0, c0, r0) := rfl
    have keep : stp (fun r => shN (TqF f q) (wN f) (lf r)) (fun r => chgN f (wN f) (lf r)) (some (s0, c0, r0)) r = some (s0, c0, r0) → post M := fun e => hp M (by rw [e]; exact ⟨k1, k2, k3, k4, k5⟩) rfl c35.refl
    refine ⟨fun z => absurd z (nI_m1 (by omega)), fun _ => pk_le (shN (TqF f q) (wN f) (lf r)) s0 (fun z => t_X0_weighTried_30 (s_X0_changesTo hr hk h55 ?_)) (fun z => keep (by rw [es, if_pos z]))⟩
    rw [k1, k2]
    refine ⟨fun z => absurd z (nI_m1 (by omega)), fun _ => pk_lt (shN (TqF f q) (wN f) (lf r)) s0 (fun z2 => h62 (by rw [es, if_neg (by omega), if_pos (Or.inl z2)])) (fun z2 => pk_le c0 (chgN f (wN f) (lf r)) (fun z3 => t_X0_weighTried_87 (keep (by rw [es, if_neg (by omega), if_neg (by omega)]))) (fun z3 => h62 (by rw [es, if_neg (by omega), if_pos (Or.inr z3)])))⟩
theorem msk_app {pre : List Nat} {w : Nat} (hw : w < 5) : mskF (fun v => v ∈ pre) 5 ||| (1 <<< (nI w &&& 31)) = mskF (fun v => v ∈ pre ++ [w]) 5 := by
  apply bt_ext
  intro i hi
  rw [bt_or, bt_bit (by omega), Bool.eq_iff_iff, Bool.or_eq_true, bt_msk (by decide), bt_msk (by decide), decide_eq_true_iff, List.mem_append, List.mem_singleton]
  constructor
  · rintro (⟨h1, h2⟩ | h1)
    · exact ⟨h1, Or.inl h2⟩
    · exact ⟨by omega, Or.inr h1⟩
  · rintro ⟨h1, h2 | h2⟩
    · exact Or.inl ⟨h1, h2⟩
    · exact Or.inr h2
theorem getD_app {pre : List Nat} {w k : Nat} : (pre ++ [w]).getD k 0 = if k = pre.length then w else pre.getD k 0 := by
  by_cases c : k < pre.length
  · rw [if_neg (by omega), List.getD_eq_getElem?_getD, List.getD_eq_getElem?_getD, List.getElem?_append_left c]
  · by_cases c2 : k = pre.length
    · subst c2
      rw [if_pos rfl, List.getD_eq_getElem?_getD, List.getElem?_append_right (Nat.le_refl _), Nat.sub_self]
      rfl
    · rw [if_neg c2, List.getD_eq_getElem?_getD, List.getD_eq_getElem?_getD, List.getElem?_append_right (by omega), List.getElem?_eq_none (by rw [List.length_singleton]; omega), List.getElem?_eq_none (by omega)]
theorem s_X0_extend {q : Nat} {M0 : zM} (hr : cR M0 61 f) (hk : okF f) : ∀ (k : Nat) (pre : List Nat) (M : zM) (S : apS) (post : zM → Prop), pre.length + k = wN f → (∀ j, j < pre.length → pre.getD j 0 < wN f) → (∀ j, j < pre.length → M.1 55 j = nI (pre.getD j 0)) → c35 M M0 → cA M (wN f) S → (∀ M', cA M' (wN f) ((extL (wN f) k pre).foldl (stp (fun r => shN (TqF f q) (wN f) (lf r)) (fun r => chgN f (wN f) (lf r))) S) → (∀ j, j < pre.length → M'.1 55 j = nI (pre.getD j 0)) → c35 M' M0 → post M') → zCv E jX0_extend (D + 2 + k) 0 [.ref 53, .ref 62, .int (mskF (TqF f q) (wN f)), .int (nI pre.length), .int (mskF (fun v => v ∈ pre) 5)] M post px := by
  have w5 := hk.w
  have hn : ∀ M, c35 M M0 → M.1 62 6 = nI (wN f) := fun M hb => by rw [hb.1 62 (by decide) (by decide) (by decide)]; exact hr.1.1.trans w5.1
  have crr : ∀ M, c35 M M0 → cR M 61 f := fun M hb => cR_same (fun o j h1 h2 => ⟨by rw [hb.1 o (by omega) (by omega) (by omega)], by rw [hb.2]⟩) hk hr
  intro k
  induction k with
  | zero =>
    intro pre M S post hl hpn h55 hb hS hp
    refine e_X0_extend (pk_lt pre.length (wN f) (fun z => absurd z (by omega)) (fun _ => s_X0_weighTried (S := S) (r := pre) (crr M hb) hk hS (fun j hj => ⟨h55 j (by omega), hpn j (by omega)⟩) (fun M' h1 h2 h3 => hp M' h1 (fun j hj => by rw [h2]; exact h55 j hj) (h3.trans hb))) rfl (hn M hb))
  | succ k ih =>
    intro pre M S post hl hpn h55 hb hS hp
    refine e_X0_extend (pk_lt pre.length (wN f) (fun _ => ?_) (fun z => absurd z (by omega)) rfl (hn M hb))
    generalize hg : (fun w => if pre.contains w then [] else extL (wN f) k (pre ++ [w])) = g
    have eg : ∀ w, g w = if pre.contains w then [] else extL (wN f) k (pre ++ [w]) := fun w => by rw [← hg]
    have eL : extL (wN f) (k + 1) pre = (List.range (wN f)).flatMap g := by rw [← hg]; rfl
    rw [eL] at hp
    refine zup_loop (fun i => ∀ M', cA M' (wN f) (((List.range i).flatMap g).foldl (stp (fun r => shN (TqF f q) (wN f) (lf r)) (fun r => chgN f (wN f) (lf r))) S) → (∀ j, j < pre.length → M'.1 55 j = nI (pre.getD j 0)) → c35 M' M0 → w_X0_extend_18 E (D + 2 + k) post px (mskF (TqF f q) (wN f)) (nI pre.length) (mskF (fun v => v ∈ pre) 5) (nI i) M') (wN f) (fun i hi ih2 M' hA h55' hb' => ?_) (fun M' hA h55' hb' => ?_) 0 (by omega) M hS h55 hb
    · have er : ((List.range (i + 1)).flatMap g) = (List.range i).flatMap g ++ g i := by rw [List.range_succ, List.flatMap_append]; simp
      rw [er, List.foldl_append] at ih2
      refine t_X0_extend_18 (pk_le (wN f) i (fun z => absurd z (by omega)) (fun _ => ?_) (hn M' hb'))
      rw [msk_b (n := 5) (by decide) (by omega)]
      have hc : pre.contains i = true ↔ i ∈ pre := List.contains_iff_mem
      refine ⟨fun z => t_X0_extend_61 ?_, fun z => ⟨pk_in _ _ (show pre.length < 5 by omega), fun M9 e9 => ?_⟩⟩
      · rw [nI_1]
        rw [eg, if_pos (hc.mpr (bI_n0.mp z))] at ih2
        exact ih2 M' hA h55' hb'
      · rw [nI_clamp (by omega)] at e9
        rw [eg, if_neg (fun y => bI_0.mp z (hc.mp y))] at ih2
        rw [nI_1, msk_app (by omega), show nI (pre.length + 1) = nI (pre ++ [i]).length by rw [List.length_append]; rfl]
        refine ih (pre ++ [i]) M9 (((List.range i).flatMap g).foldl (stp (fun r => shN (TqF f q) (wN f) (lf r)) (fun r => chgN f (wN f) (lf r))) S) _ (by rw [List.length_append, List.length_singleton]; omega) (fun j hj => ?_) (fun j hj => ?_) (by rw [e9]; exact (c35.up (by decide) (by decide)).trans hb') ?_ (fun M11 h11 h55'' hb'' => t_X0_extend_61 ?_)
        · rw [List.length_append, List.length_singleton] at hj
          rw [getD_app]
          by_cases c : j = pre.length
          · rw [if_pos c]; exact hi
          · rw [if_neg c]; exact hpn j (by omega)
        · rw [List.length_append, List.length_singleton] at hj
          rw [getD_app, e9]
          by_cases c : j = pre.length
          · rw [if_pos c, c, zup_s]
          · rw [if_neg c, zup_n (Or.inr c)]; exact h55' j (by omega)
        · revert hA
          generalize ((List.range i).flatMap g).foldl (stp (fun r => shN (TqF f q) (wN f) (lf r)) (fun r => chgN f (wN f) (lf r))) S = S2
          intro hA
          cases S2 with
          | none =>
            have hA' : M'.1 53 2 = -1 := hA
            show M9.1 53 2 = -1
            rw [e9, zup_o (by decide)]; exact hA'
          | some t =>
            obtain ⟨a1, a2, a3, a4, a5⟩ := hA
            exact ⟨by rw [e9, zup_o (by decide)]; exact a1, by rw [e9, zup_o (by decide)]; exact a2, fun k' hk' => by rw [e9, zup_o (by decide)]; exact a3 k' hk', a4, a5⟩
        · rw [nI_1]
          refine ih2 M11 h11 (fun j hj => ?_) hb''
          have := h55'' j (by rw [List.length_append, List.length_singleton]; omega)
          rw [getD_app, if_neg (by omega)] at this
          exact this
    · exact t_X0_extend_18 (pk_le (wN f) (wN f) (fun _ => hp M' hA h55' hb') (fun z => absurd z (by omega)) (hn M' hb'))
noncomputable def apF (f : zRow) (q : Nat) : apS := (extL (wN f) (wN f) []).foldl (stp (fun r => shN (TqF f q) (wN f) (lf r)) (fun r => chgN f (wN f) (lf r))) none
theorem s_X0_search {post : zM → Prop} {q : Nat} (hr : cR M 61 f) (hk : okF f) (hp : ∀ M', cA M' (wN f) (apF f q) → c35 M' M → post M') : zCv E jX0_search (D + 8) 0 [.ref 53, .ref 62, .int (mskF (TqF f q) (wN f))] M post px := by
  have w5 := hk.w
  refine e_X0_search (fun M1 e1 M3 e3 => ?_)
  have b3 : c35 M3 M := by rw [e3]; exact (c35.up (by decide) (by decide)).trans (by rw [e1]; exact c35.up (by decide) (by decide))
  have := s_X0_extend (E := E) (px := px) (q := q) (D := D + 5 - wN f) hr hk (wN f) [] M3 none post (by simp) (fun j hj => absurd hj (by simp)) (fun j hj => absurd hj (by simp)) b3 (show M3.1 53 2 = -1 by rw [e3, zup_n (Or.inr (by decide)), e1, zup_s]) (fun M' h1 _ h3 => hp M' h1 h3)
  rw [show D + 5 - wN f + 2 + wN f = D + 7 by omega, show mskF (fun v => v ∈ ([] : List Nat)) 5 = 0 from (msk_zero (by decide)).mpr (fun k _ h => by cases h)] at this
  exact this
/-! the reference -/
theorem dn_lt (x : Nat) : ∀ j, dnN x j < 32
  | 0 => (by decide : (0 : Nat) < 32)
  | j + 1 => by
    have h1 := dn_lt x j
    have h2 : 2 ^ (x / 5 ^ j % 5) < 32 := Nat.pow_lt_pow_right (n := 5) (by decide) (Nat.mod_lt _ (by decide))
    exact Nat.or_lt_two_pow (n := 5) h1 h2
theorem s_X12_laysOrder {post : Int32 → zM → Prop} {x : Nat} (hf : M.1 1 = f) (hk : okF f) (hx : x < 5 ^ wN f) (hp : ∀ M', (∀ k, k < wN f → M'.1 14 k = nI (dgt (wN f) x k)) → (∀ o, o ≠ 14 → M'.1 o = M.1 o) → M'.2 = M.2 → post (if dnN x (wN f) = 2 ^ wN f - 1 then 1 else 0) M') : zCi E jX12_laysOrder (D + 1) 0 [.ref 0, .int (nI x)] M post px := by
  have w5 := hk.w
  have hb : 5 ^ wN f ≤ 5 ^ 5 := Nat.pow_le_pow_right (by decide) w5.2
  have h31 : (5 : Nat) ^ 5 = 3125 := by decide
  refine e_X12_laysOrder (e_X12_witnesses ?_)
  have eN : M.1 1 (0 : Int32).toNatClampNeg = nI (wN f) := by rw [hf]; exact w5.1
  rw [eN]
  have key := zup_loop (fun j => ∀ M', (∀ k, wN f - j ≤ k → k < wN f → M'.1 14 k = nI (dgt (wN f) x k)) → (∀ o, o ≠ 14 → M'.1 o = M.1 o) → M'.2 = M.2 → w_X12_laysOrder_12 E D post px (nI (x / 5 ^ j)) (nI (dnN x j)) (nI (wN f - j) - 1) M') (wN f) (fun j hj ih M' h14 hO hL => ?_) (fun M' h14 hO hL => ?_) 0 (by omega) M (fun k h1 h2 => by omega) (fun _ _ => rfl) rfl
  · rw [show x / 5 ^ 0 = x by simp] at key
    exact key
  · rw [show wN f - j = (wN f - 1 - j) + 1 by omega, nI_pred]
    have hle : x / 5 ^ j ≤ x := Nat.div_le_self _ _
    have er : zrem (nI (x / 5 ^ j)) 5 = nI (x / 5 ^ j % 5) := pk_rem (d := 5) (by omega) (by decide) (by decide)
    have ed : nI (x / 5 ^ j) / 5 = nI (x / 5 ^ (j + 1)) := by
      rw [show (5 : Int32) = nI 5 from rfl, pk_div (by omega) (by decide) (by decide), Nat.div_div_eq_div_mul, ← Nat.pow_succ]
    have hm5 : x / 5 ^ j % 5 < 5 := Nat.mod_lt _ (by decide)
    refine t_X12_laysOrder_12 ⟨fun z => absurd z (nI_pos (by omega)), fun _ => ⟨pk_in _ _ (show wN f - 1 - j < 5 by omega), fun M12 e12 => ⟨pk_in _ _ (show wN f - 1 - j < 5 by omega), ?_⟩⟩⟩
    rw [nI_clamp (by omega), er] at e12
    rw [nI_clamp (by omega), ed]
    have v12 : M12.1 14 (wN f - 1 - j) = nI (x / 5 ^ j % 5) := by rw [e12, zup_s]
    rw [v12, all_cnt (by omega), fa_or, show nI (wN f - 1 - j) + -1 = nI (wN f - (j + 1)) - 1 by rw [show wN f - (j + 1) = wN f - 1 - j by omega]; exact (Int32.sub_eq_add_neg _ 1).symm]
    refine ih M12 (fun k h1 h2 => ?_) (fun o ho => by rw [e12, zup_o ho]; exact hO o ho) (by rw [e12, zup_L]; exact hL)
    by_cases c : k = wN f - 1 - j
    · rw [c, v12]
      unfold dgt
      rw [show wN f - 1 - (wN f - 1 - j) = j by omega]
    · rw [e12, zup_n (Or.inr c)]
      exact h14 k (by omega) h2
  · rw [Nat.sub_self]
    have hh := hp M' (fun k hk' => h14 k (by omega) hk') hO hL
    refine t_X12_laysOrder_12 ⟨fun _ => e_X12_witnesses ?_, fun z => absurd (by decide) z⟩
    have eN' : M'.1 1 (0 : Int32).toNatClampNeg = nI (wN f) := by rw [hO 1 (by decide)]; exact eN
    rw [eN', all_nI (by omega)]
    have hd := dn_lt x (wN f)
    have h2 : 2 ^ wN f ≤ 2 ^ 5 := Nat.pow_le_pow_right (by decide) w5.2
    have h32 : (2 : Nat) ^ 5 = 32 := by decide
    have hiff : nI (dnN x (wN f)) = nI (2 ^ wN f - 1) ↔ dnN x (wN f) = 2 ^ wN f - 1 := nI_eq (by omega) (by omega)
    refine ⟨fun z => t_X12_laysOrder_66 ⟨Or.inl rfl, ?_⟩, fun z => t_X12_laysOrder_66 ⟨Or.inr rfl, ?_⟩⟩
    · rw [if_neg (fun q => z (hiff.mpr q))] at hh; exact hh
    · rw [if_pos (hiff.mp z)] at hh; exact hh
theorem s_X12_changes {post : Int32 → zM → Prop} {r : Nat → Nat} (hf : M.1 1 = f) (hk : okF f) (h14 : ∀ k, k < wN f → M.1 14 k = nI (r k) ∧ r k < wN f) (hp : post (nI (chgN f (wN f) r)) M) : zCi E jX12_changes (D + 2) 0 [.ref 0] M post px := by
  have w5 := hk.w
  have hn : M.1 1 (0 : Int32).toNatClampNeg = nI (wN f) := by rw [hf]; exact w5.1
  refine e_X12_changes (zup_loop (fun i => w_X12_changes_4 E (D + 1) post px (nI (smN (fun a => cN (fun j => ¬ plc f (r a) ≤ plc f (r (a + 1 + j))) (wN f - (a + 1))) i)) (nI i) M) (wN f) (fun i hi ih => ?_) ?_ 0 (by omega))
  · refine t_X12_changes_4 (e_X12_witnesses (pk_le (wN f) i (fun z => absurd z (by omega)) (fun _ => ?_) hn))
    rw [nI_1]
    have key := zup_loop (fun j => w_X12_changes_16 E (D + 1) post px (nI (smN (fun a => cN (fun j => ¬ plc f (r a) ≤ plc f (r (a + 1 + j))) (wN f - (a + 1))) i + cN (fun j => ¬ plc f (r i) ≤ plc f (r (i + 1 + j))) j)) (nI i) (nI (i + 1 + j)) M) (wN f - (i + 1)) (fun j hj ihj => ?_) ?_ 0 (by omega)
    · exact key
    · obtain ⟨a1, a2⟩ := h14 i hi
      obtain ⟨b1, b2⟩ := h14 (i + 1 + j) (by omega)
      have pa := hk.plE a2
      have pb := hk.plE b2
      refine t_X12_changes_16 (e_X12_witnesses (pk_le (wN f) (i + 1 + j) (fun z => absurd z (by omega)) (fun _ => ⟨pk_in i _ (by omega), ?_⟩) hn))
      rw [nI_clamp (n := i) (by omega), nI_clamp (n := i + 1 + j) (by omega), a1]
      refine s_X12_of (what := 4) (by omega) ⟨pk_in _ _ (show i + 1 + j < 5 by omega), ?_⟩
      rw [b1]
      refine s_X12_of (what := 4) (by omega) ?_
      rw [hf, pa.1, pb.1]
      have h55' : ∀ v v', v' + v = cN (fun j => ¬ plc f (r i) ≤ plc f (r (i + 1 + j))) (j + 1) → v' = cN (fun j => ¬ plc f (r i) ≤ plc f (r (i + 1 + j))) j → w_X12_changes_55 E (D + 1) post px (nI i) (nI (i + 1 + j)) (nI v) (nI (smN (fun a => cN (fun j => ¬ plc f (r a) ≤ plc f (r (a + 1 + j))) (wN f - (a + 1))) i + v')) M := fun v v' hv hv' => t_X12_changes_55 (by
        rw [nI_1, nI_add, Nat.add_assoc, hv]
        exact ihj)
      refine pk_le (plc f (r i)) (plc f (r (i + 1 + j))) (fun z => h55' 0 _ ?_ rfl) (fun z => h55' 1 _ ?_ rfl)
      · rw [cN, if_neg (fun q => q z)]
      · rw [cN, if_pos (by omega)]
    · refine t_X12_changes_16 (e_X12_witnesses (pk_le (wN f) (i + 1 + (wN f - (i + 1))) (fun _ => ?_) (fun z => absurd z (by omega)) hn))
      rw [nI_1]
      exact ih
  · exact t_X12_changes_4 (e_X12_witnesses (pk_le (wN f) (wN f) (fun _ => hp) (fun z => absurd z (by omega)) hn))
def sF (S : apS) : Nat := match S with | none => 1000000 | some (s, _, _) => s
def cF (S : apS) : Nat := match S with | none => 1000000 | some (_, c, _) => c
def rA (M : zM) (n : Nat) : apS → Prop
  | none => True
  | some (s, c, r) => (∀ k, k < n → M.1 15 k = nI (lf r k)) ∧ s ≤ 100 ∧ c ≤ 100
theorem s_X12_bestRow {post : Int32 → zM → Prop} {q : Nat} (hf : M.1 1 = f) (hk : okF f) (hq : q < 8) (hp : ∀ M', rA M' (wN f) (apF f q) → r45 M' M → post (nI (cF (apF f q))) M') : zCi E jX12_bestRow (D + 6) 0 [.ref 0, .int (nI q)] M post px := by
  have w5 := hk.w
  have hn : ∀ M', r45 M' M → M'.1 1 (0 : Int32).toNatClampNeg = nI (wN f) := fun M' hr => by rw [hr.w, hf]; exact w5.1
  have hb : 5 ^ wN f ≤ 5 ^ 5 := Nat.pow_le_pow_right (by decide) w5.2
  have h31 : (5 : Nat) ^ 5 = 3125 := by decide
  generalize hst : stp (fun r => shN (TqF f q) (wN f) (lf r)) (fun r => chgN f (wN f) (lf r)) = st
  have pe := perms_eq ⟨wN f, by omega⟩
  have pe' : extL (wN f) (wN f) [] = (List.range (5 ^ wN f)).filterMap (decP (wN f)) := pe
  have pin := perms_in ⟨wN f, by omega⟩
  have ap : apF f q = ((List.range (5 ^ wN f)).filterMap (decP (wN f))).foldl st none := by unfold apF; rw [pe', hst]
  rw [ap] at hp
  have loop2 : ∀ M0, r45 M0 M → w_X12_bestRow_34 E (D + 5) post px (nI q) (nI (5 ^ wN f)) 1000000 1000000 0 M0 := fun M0 hr0 => by
    refine zup_loop (fun x => ∀ M', r45 M' M → rA M' (wN f) (((List.range x).filterMap (decP (wN f))).foldl st none) → w_X12_bestRow_34 E (D + 5) post px (nI q) (nI (5 ^ wN f)) (nI (sF (((List.range x).filterMap (decP (wN f))).foldl st none))) (nI (cF (((List.range x).filterMap (decP (wN f))).foldl st none))) (nI x) M') (5 ^ wN f) (fun x hx ih M' hr hA => ?_) (fun M' hr hA => ?_) 0 (Nat.zero_le _) M0 hr0 trivial
    · refine t_X12_bestRow_34 (pk_le (5 ^ wN f) x (fun z => absurd z (by omega)) (fun _ => s_X12_laysOrder (by rw [hr.w, hf]) hk hx (fun M4 h14 hO hL => ?_)))
      have r4 : r45 M4 M := ⟨fun o h1 h2 => (hO o h1).trans (hr.1 o h1 h2), hL.trans hr.2⟩
      have er : (List.range (x + 1)).filterMap (decP (wN f)) = (List.range x).filterMap (decP (wN f)) ++ (match decP (wN f) x with | none => [] | some r => [r]) := by
        rw [List.range_succ, List.filterMap_append]
        congr 1
        cases hd : decP (wN f) x with
        | none => simp [List.filterMap, hd]
        | some r => simp [List.filterMap, hd]
      have k15 : M4.1 15 = M'.1 15 := hO 15 (by decide)
      by_cases cP : dnN x (wN f) = 2 ^ wN f - 1
      · have ed : decP (wN f) x = some (digs (wN f) x) := by unfold decP; rw [if_pos cP]
        rw [er, ed, List.foldl_append] at ih
        have lfd : ∀ k, k < wN f → lf (digs (wN f) x) k = dgt (wN f) x k := fun k hk' => by
          show (digs (wN f) x).getD k 0 = _
          unfold digs
          rw [List.getD_eq_getElem?_getD, List.getElem?_map, List.getElem?_range hk']
          rfl
        have mem : digs (wN f) x ∈ (List.range (5 ^ wN f)).filterMap (decP (wN f)) := List.mem_filterMap.mpr ⟨x, List.mem_range.mpr hx, ed⟩
        have h14' : ∀ k, k < wN f → M4.1 14 k = nI (lf (digs (wN f) x) k) ∧ lf (digs (wN f) x) k < wN f := fun k hk' => ⟨by rw [lfd k hk']; exact h14 k hk', pin _ mem ⟨k, hk'⟩⟩
        rw [if_pos cP]
        generalize digs (wN f) x = r at *
        have sl := sh_le (T := TqF f q) (r := lf r) w5.2
        have cl := chg_le (f := f) (r := lf r) w5.2
        refine z1A (s_X12_sharedIn (r := lf r) (by rw [r4.w, hf]) hk hq (fun k hk' => (h14' k hk').1) (s_X12_changes (r := lf r) (by rw [r4.w, hf]) hk h14' ?_))
        generalize ((List.range x).filterMap (decP (wN f))).foldl st none = S at *
        have ih' : ∀ M', r45 M' M → rA M' (wN f) (st S r) → w_X12_bestRow_34 E (D + 5) post px (nI q) (nI (5 ^ wN f)) (nI (sF (st S r))) (nI (cF (st S r))) (nI (x + 1)) M' := ih
        have keep : st S r = S → w_X12_bestRow_126 E (D + 5) post px (nI q) (nI (5 ^ wN f)) (nI (sF S)) (nI (cF S)) (nI x) M4 := fun e => t_X12_bestRow_126 (by
          rw [nI_1]
          have := ih' M4 r4
          rw [e] at this
          refine this ?_
          cases S with
          | none => trivial
          | some t =>
            obtain ⟨s0, c0, r0⟩ := t
            obtain ⟨a1, a2, a3⟩ := hA
            exact ⟨fun k hk' => by rw [k15]; exact a1 k hk', a2, a3⟩)
        have take : st S r = some (shN (TqF f q) (wN f) (lf r), chgN f (wN f) (lf r), r) → w_X12_bestRow_87 E (D + 5) post px (nI q) (nI (5 ^ wN f)) (nI x) (nI (shN (TqF f q) (wN f) (lf r))) (nI (chgN f (wN f) (lf r))) M4 := fun e => by
          refine t_X12_bestRow_87 ?_
          refine zup_loop (fun i => ∀ M', r45 M' M → M'.1 14 = M4.1 14 → (∀ k, k < i → M'.1 15 k = nI (lf r k)) → w_X12_bestRow_90 E (D + 5) post px (nI q) (nI (5 ^ wN f)) (nI x) (nI (shN (TqF f q) (wN f) (lf r))) (nI (chgN f (wN f) (lf r))) (nI i) M') (wN f) (fun i hi ih2 M5 r5 k14 k15' => ?_) (fun M5 r5 k14 k15' => ?_) 0 (by omega) M4 r4 rfl (fun k hk' => absurd hk' (by omega))
          · refine t_X12_bestRow_90 (e_X12_witnesses (pk_le (wN f) i (fun z => absurd z (by omega)) (fun _ => ?_) (hn M5 r5)))
            rw [nI_clamp (by omega), k14, (h14' i hi).1]
            refine ⟨pk_in i _ (by omega), pk_in i _ (by omega), fun M11 e11 => ?_⟩
            rw [nI_1]
            refine ih2 M11 (by rw [e11]; exact r45.up15.trans r5) (by rw [e11, zup_o (by decide), k14]) (fun k hk' => ?_)
            by_cases ck : k = i
            · rw [ck, e11, zup_s]
            · rw [e11, zup_n (Or.inr ck)]; exact k15' k (by omega)
          · refine t_X12_bestRow_90 (e_X12_witnesses (pk_le (wN f) (wN f) (fun _ => t_X12_bestRow_126 ?_) (fun z => absurd z (by omega)) (hn M5 r5)))
            rw [nI_1]
            have := ih' M5 r5
            rw [e] at this
            exact this ⟨k15', by omega, by omega⟩
        cases S with
        | none =>
          have e0 : st none r = some (shN (TqF f q) (wN f) (lf r), chgN f (wN f) (lf r), r) := by rw [← hst]; rfl
          exact pk_lt 1000000 (shN (TqF f q) (wN f) (lf r)) (fun z => absurd z (by omega)) (fun _ => pk_eq (shN (TqF f q) (wN f) (lf r)) 1000000 (fun z => absurd z (by omega)) (fun _ => take e0) |> fun y => ⟨y.2, y.1⟩)
        | some t =>
          obtain ⟨s0, c0, r0⟩ := t
          obtain ⟨a1, a2, a3⟩ := hA
          have es : st (some (s0, c0, r0)) r = if s0 < shN (TqF f q) (wN f) (lf r) then some (s0, c0, r0) else if shN (TqF f q) (wN f) (lf r) < s0 ∨ chgN f (wN f) (lf r) < c0 then some (shN (TqF f q) (wN f) (lf r), chgN f (wN f) (lf r), r) else some (s0, c0, r0) := by rw [← hst]; rfl
          refine pk_lt s0 (shN (TqF f q) (wN f) (lf r)) (fun z => keep (by rw [es, if_pos z])) (fun z => ?_)
          refine pk_eq (shN (TqF f q) (wN f) (lf r)) s0 (fun z2 => ?_) (fun z2 => take (by rw [es, if_neg (by omega), if_pos (Or.inl (by omega))])) |> fun y => ⟨y.2, y.1⟩
          exact pk_lt (chgN f (wN f) (lf r)) c0 (fun z3 => take (by rw [es, if_neg (by omega), if_pos (Or.inr z3)])) (fun z3 => keep (by rw [es, if_neg (by omega), if_neg (by omega)]))
      · have ed : decP (wN f) x = none := by unfold decP; rw [if_neg cP]
        rw [er, ed, List.append_nil] at ih
        rw [if_neg cP]
        refine z0B (t_X12_bestRow_126 ?_)
        rw [nI_1]
        refine ih M4 r4 ?_
        revert hA
        generalize ((List.range x).filterMap (decP (wN f))).foldl st none = S
        intro hA
        cases S with
        | none => trivial
        | some t =>
          obtain ⟨s0, c0, r0⟩ := t
          obtain ⟨a1, a2, a3⟩ := hA
          exact ⟨fun k hk' => by rw [k15]; exact a1 k hk', a2, a3⟩
    · exact t_X12_bestRow_34 (pk_le (5 ^ wN f) (5 ^ wN f) (fun _ => hp M' hA hr) (fun z => absurd z (by omega)))
  refine e_X12_bestRow (zup_loop (fun i => w_X12_bestRow_4 E (D + 5) post px (nI q) (nI (5 ^ i)) (nI i) M) (wN f) (fun i hi ih => ?_) ?_ 0 (by omega))
  · refine t_X12_bestRow_4 (e_X12_witnesses (pk_le (wN f) i (fun z => absurd z (by omega)) (fun _ => ?_) (hn M r45.refl)))
    rw [show (5 : Int32) = nI 5 from rfl, pk_mul, ← Nat.pow_succ, nI_1]
    exact ih
  · exact t_X12_bestRow_4 (e_X12_witnesses (pk_le (wN f) (wN f) (fun _ => loop2 M r45.refl) (fun z => absurd z (by omega)) (hn M r45.refl)))
theorem stp_some {sh ch : List Nat → Nat} {S : apS} {r : List Nat} : stp sh ch S r ≠ none := by
  cases S with
  | none => intro h; cases h
  | some t =>
    obtain ⟨s0, c0, r0⟩ := t
    unfold stp
    dsimp only
    by_cases c : s0 < sh r
    · rw [if_pos c]; intro h; cases h
    · rw [if_neg c]
      by_cases c2 : sh r < s0 ∨ ch r < c0
      · rw [if_pos c2]; intro h; cases h
      · rw [if_neg c2]; intro h; cases h
theorem fold_some {sh ch : List Nat → Nat} : ∀ (l : List (List Nat)) (S : apS), (S ≠ none ∨ l ≠ []) → l.foldl (stp sh ch) S ≠ none
  | [], S, h => by
    rcases h with h | h
    · exact h
    · exact absurd rfl h
  | r :: l, S, _ => fold_some l (stp sh ch S r) (Or.inl stp_some)
theorem ap_some {q : Nat} (hk : okF f) : apF f q ≠ none := by
  have w5 := hk.w.2
  refine fold_some _ _ (Or.inr ?_)
  have := (by decide +kernel : ∀ n : Fin 6, extL n.val n.val [] ≠ []) ⟨wN f, by omega⟩
  exact this
theorem op_apart {x : Int32} (h : Rel M) (hK : ∀ M', Rel M' → K M') : zCWi E jL_apart (D + 20) 1 [.ref 19, .int x, .ref 18] M (opR E jX12_apart (D + 20) [.ref 0, .int x] K) := by
  have q8 := h.ok.q
  refine e_L_apart (e_X11_apart (s_X11_needQuestion h.nQ (fun c => ?_) (fun c => ⟨rfl, fun px => ?_⟩)))
  · obtain ⟨q, hq, rfl⟩ := c.get (by omega)
    refine s_X11_touchedBy h.now h.ok hq (s_X0_search h.now h.ok (fun M6 hA b6 M4 e4 px => ?_))
    obtain ⟨t, ht⟩ := Option.ne_none_iff_exists'.mp (ap_some (q := q) h.ok)
    obtain ⟨s0, c0, r0⟩ := t
    have v3 : M6.1 53 3 = nI (cF (apF (M.1 1) q)) := by
      rw [ht] at hA ⊢
      exact hA.2.1
    rw [n0, v3] at e4
    subst e4
    have e1 := bl_w4 (x := (nI (cF (apF (M.1 1) q))).toInt64) b6.pi
    refine e_X12_apart (fun M1 em => ?_)
    subst em
    refine s_X12_noQuestion (n := qN (M.1 1)) (by rw [e1]; exact q8.1) (by omega) (fun _ => s_throws0 (z0A (s_X12_bestRow e1 h.ok (by omega) (fun M2 _ r2 => t_X12_apart_27 ?_)))) (fun z => absurd c z)
    exact ok_fin h hK b6.pi r2.ro rfl
  · exact e_X12_apart (fun M1 e1 => s_X12_noQuestion (n := qN (M.1 1)) (by rw [e1]; exact q8.1) (by omega) (fun z => absurd z c) (fun _ => s_throws1 (z1B (t_X12_apart_27 (by rw [e1]; exact bad_end h hK (by decide))))))
theorem op_row {x y : Int32} (h : Rel M) (hK : ∀ M', Rel M' → K M') : zCWi E jL_row (D + 20) 2 [.ref 19, .int x, .int y, .ref 18] M (opR E jX12_row (D + 20) [.ref 0, .int x, .int y] K) := by
  have q8 := h.ok.q
  have w5 := h.ok.w
  by_cases c : zv x (qN (M.1 1))
  · obtain ⟨q, hq, rfl⟩ := c.get (by omega)
    by_cases cw : zv y (wN (M.1 1))
    · obtain ⟨w, hw, rfl⟩ := cw.get (by omega)
      refine e_L_row (e_X11_row (s_X11_needQuestion h.nQ (fun _ => s_X11_needPlace h.nW (fun _ => s_X11_touchedBy h.now h.ok hq (s_X0_search h.now h.ok (fun M6 hA b6 => ⟨pk_in w _ (by omega), fun M4 e4 px => ?_⟩))) (fun z => absurd cw z)) (fun z => absurd c z)))
      obtain ⟨t, ht⟩ := Option.ne_none_iff_exists'.mp (ap_some (q := q) h.ok)
      obtain ⟨s0, c0, r0⟩ := t
      rw [ht] at hA
      rw [n0, nI_clamp (by omega), hA.2.2.1 w hw] at e4
      subst e4
      have e1 := bl_w4 (x := (nI (lf r0 w)).toInt64) b6.pi
      refine e_X12_row (fun M1 em => ?_)
      subst em
      refine s_X12_noQuestion (n := qN (M.1 1)) (by rw [e1]; exact q8.1) (by omega) (fun _ => z0B (s_X12_noWitness (n := wN (M.1 1)) (by rw [e1]; exact w5.1) (by omega) (fun _ => z0A (t_X12_row_27 (s_throws0 (z0A (s_X12_bestRow e1 h.ok (by omega) (fun M2 hA2 r2 => ⟨pk_in w _ (by omega), ?_⟩)))))) (fun z => absurd cw z))) (fun z => absurd c z)
      rw [ht] at hA2
      exact ok_fin h hK b6.pi r2.ro (by rw [nI_clamp (by omega)]; exact hA2.1 w hw)
    · refine e_L_row (e_X11_row (s_X11_needQuestion h.nQ (fun _ => s_X11_needPlace h.nW (fun z => absurd z cw) (fun _ => ⟨rfl, fun px => ?_⟩)) (fun z => absurd c z)))
      exact e_X12_row (fun M1 e1 => s_X12_noQuestion (n := qN (M.1 1)) (by rw [e1]; exact q8.1) (by omega) (fun _ => z0B (s_X12_noWitness (n := wN (M.1 1)) (by rw [e1]; exact w5.1) (by omega) (fun z => absurd z cw) (fun _ => z1B (t_X12_row_22 (t_X12_row_27 (s_throws1 (z1B (by rw [e1]; exact bad_end h hK (by decide))))))))) (fun z => absurd c z))
  · refine e_L_row (e_X11_row (s_X11_needQuestion h.nQ (fun z => absurd z c) (fun _ => ⟨rfl, fun px => ?_⟩)))
    exact e_X12_row (fun M1 e1 => s_X12_noQuestion (n := qN (M.1 1)) (by rw [e1]; exact q8.1) (by omega) (fun z => absurd z c) (fun _ => z1A (t_X12_row_22 (t_X12_row_27 (s_throws1 (z1B (by rw [e1]; exact bad_end h hK (by decide))))))))
end APART
