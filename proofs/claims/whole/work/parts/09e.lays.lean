/-! ===== how much each rises: the reference; flags, masks ===== -/
theorem i_arc (a b c : Int32) : a + b + c = a + c + b := by rw [Int32.add_assoc, Int32.add_comm b, ← Int32.add_assoc]
noncomputable def bI (p : Prop) : Int32 := @ite _ p (Classical.propDecidable p) 1 0
theorem bI_t {p : Prop} (h : p) : bI p = 1 := if_pos h
theorem bI_f {p : Prop} (h : ¬ p) : bI p = 0 := if_neg h
theorem bI_01 (p : Prop) : bI p = 0 ∨ bI p = 1 := by
  by_cases h : p
  · exact Or.inr (bI_t h)
  · exact Or.inl (bI_f h)
theorem bI_c {p q : Prop} (h : p ↔ q) : bI p = bI q := by rw [propext h]
theorem bI_0 {p : Prop} : bI p = 0 ↔ ¬ p := ⟨fun z h => absurd ((bI_t h).symm.trans z) (by decide), bI_f⟩
theorem bI_n0 {p : Prop} : ¬ bI p = 0 ↔ p := ⟨fun z => Classical.byContradiction (fun h => z (bI_f h)), fun h z => bI_0.mp z h⟩
noncomputable def bitI (p : Prop) (k : Nat) : Int32 := @ite _ p (Classical.propDecidable p) (1 <<< (nI k &&& 31)) 0
noncomputable def mskF (p : Nat → Prop) (n : Nat) : Int32 := orI (fun k => bitI (p k) k) n
theorem bit_y {p : Prop} {k : Nat} (h : p) : bitI p k = 1 <<< (nI k &&& 31) := if_pos h
theorem bit_n {p : Prop} {k : Nat} (h : ¬ p) : bitI p k = 0 := if_neg h
theorem msk_y {p : Nat → Prop} {i : Nat} (h : p i) : mskF p i ||| (1 <<< (nI i &&& 31)) = mskF p (i + 1) := orI_s (g := fun k => bitI (p k) k) (bit_y h)
theorem msk_0 {p : Nat → Prop} {i : Nat} (h : ¬ p i) : mskF p i ||| 0 = mskF p (i + 1) := orI_s (g := fun k => bitI (p k) k) (bit_n h)
theorem msk_n {p : Nat → Prop} {i : Nat} (h : ¬ p i) : mskF p i = mskF p (i + 1) := orI_z (g := fun k => bitI (p k) k) (bit_n h)
theorem msk_c {p q : Nat → Prop} {n : Nat} (h : ∀ k, k < n → (p k ↔ q k)) : mskF p n = mskF q n := orI_cong fun k hk => by rw [propext (h k hk)]
noncomputable def cntI (p : Nat → Prop) (n : Nat) : Int32 := sumI (fun k => bI (p k)) n
theorem cnt_y {p : Nat → Prop} {i : Nat} (h : p i) : cntI p i + 1 = cntI p (i + 1) := sumI_s (g := fun k => bI (p k)) (bI_t h)
theorem cnt_0 {p : Nat → Prop} {i : Nat} (h : ¬ p i) : cntI p i + 0 = cntI p (i + 1) := sumI_s (g := fun k => bI (p k)) (bI_f h)
theorem cnt_n {p : Nat → Prop} {i : Nat} (h : ¬ p i) : cntI p i = cntI p (i + 1) := sumI_z (g := fun k => bI (p k)) (bI_f h)
theorem cnt_c {p q : Nat → Prop} {n : Nat} (h : ∀ k, k < n → (p k ↔ q k)) : cntI p n = cntI q n := sumI_cong fun k hk => by rw [propext (h k hk)]
section RLAYS
variable {E : zEv} {D : Nat} {px : String → zM → Prop} {M : zM} {f : zRow}
noncomputable def lyL (f : zRow) (said : Int32) (i v : Nat) : Int32 := if 0 < plc f v ∧ rw_ f (plc f v - 1) < i then pdF f (rw_ f (plc f v - 1)) said else 0
noncomputable def lyR (f : zRow) (said : Int32) (i v : Nat) : Int32 := if plc f v + 1 < wN f ∧ rw_ f (plc f v + 1) < i then pdF f (rw_ f (plc f v + 1)) said else 0
theorem lyR_y {said : Int32} {i v : Nat} (hk : okF f) (hi : i < wN f) (h : plc f v + 1 = plc f i) : lyR f said (i + 1) v = pdF f i said ∧ lyR f said i v = 0 := by
  obtain ⟨-, p2, p3⟩ := hk.plE hi
  unfold lyR
  rw [h, p3, if_pos ⟨p2, by omega⟩, if_neg (fun z => by omega)]
  exact ⟨rfl, rfl⟩
theorem lyR_n {said : Int32} {i v : Nat} (hk : okF f) (h : plc f v + 1 ≠ plc f i) : lyR f said (i + 1) v = lyR f said i v := by
  unfold lyR
  by_cases c : plc f v + 1 < wN f
  · obtain ⟨-, r2, r3⟩ := hk.rwE c
    have ne : rw_ f (plc f v + 1) ≠ i := fun z => h (by rw [← r3, z])
    by_cases c2 : rw_ f (plc f v + 1) < i
    · rw [if_pos ⟨c, by omega⟩, if_pos ⟨c, c2⟩]
    · rw [if_neg (fun z => by omega), if_neg (fun z => c2 z.2)]
  · rw [if_neg (fun z => c z.1), if_neg (fun z => c z.1)]
theorem lyL_y {said : Int32} {i v : Nat} (hk : okF f) (hi : i < wN f) (h : plc f v = plc f i + 1) : lyL f said (i + 1) v = pdF f i said ∧ lyL f said i v = 0 := by
  obtain ⟨-, p2, p3⟩ := hk.plE hi
  unfold lyL
  rw [h, Nat.add_sub_cancel, p3, if_pos ⟨by omega, by omega⟩, if_neg (fun z => by omega)]
  exact ⟨rfl, rfl⟩
theorem lyL_n {said : Int32} {i v : Nat} (hk : okF f) (hv : v < wN f) (h : plc f v ≠ plc f i + 1) : lyL f said (i + 1) v = lyL f said i v := by
  obtain ⟨-, q2, q3⟩ := hk.plE hv
  unfold lyL
  by_cases c : 0 < plc f v
  · obtain ⟨-, r2, r3⟩ := hk.rwE (show plc f v - 1 < wN f by omega)
    have ne : rw_ f (plc f v - 1) ≠ i := fun z => h (by rw [← z, r3]; omega)
    by_cases c2 : rw_ f (plc f v - 1) < i
    · rw [if_pos ⟨c, by omega⟩, if_pos ⟨c, c2⟩]
    · rw [if_neg (fun z => by omega), if_neg (fun z => c2 z.2)]
  · rw [if_neg (fun z => c z.1), if_neg (fun z => c z.1)]
/-- nothing but values and rises has changed -/
def rk (M' M : zM) : Prop := (∀ o, o ≠ 8 → o ≠ 9 → M'.1 o = M.1 o) ∧ M'.2 = M.2
theorem rk.refl {M : zM} : rk M M := ⟨fun _ _ _ => rfl, rfl⟩
theorem rk.trans {M1 M2 M3 : zM} (h : rk M1 M2) (h2 : rk M2 M3) : rk M1 M3 := ⟨fun o a b => (h.1 o a b).trans (h2.1 o a b), h.2.trans h2.2⟩
theorem rk.up {M : zM} {j : Nat} {v : Int32} : rk (zup M 9 j v) M := ⟨fun _ _ ho => zup_o ho, rfl⟩
theorem rk.w {M' M : zM} (h : rk M' M) : M'.1 1 = M.1 1 := h.1 1 (by decide) (by decide)
theorem rv.rk {M' M : zM} (h : rv M' M) : rk M' M := ⟨fun o a _ => h.1 o a, h.2⟩
theorem rk.pi {M' M : zM} (h : rk M' M) : zpi M' = zpi M := zpi_of fun o j hi => ⟨by
  rw [h.1 o (by rintro rfl; cases hi) (by rintro rfl; cases hi)], by rw [h.2]⟩
theorem s_X12_lays {post : zM → Prop} {said : Int32} (hf : M.1 1 = f) (hk : okF f) (hL : lawK f) (hp : ∀ M', (∀ v, v < wN f → M'.1 9 v = riseF f said v) → rk M' M → post M') : zCv E jX12_lays (D + 7) 0 [.ref 0, .int said] M post px := by
  have w5 := hk.w
  have loop2 : ∀ M0, rk M0 M → (∀ v, v < wN f → M0.1 9 v = ownF f v said) → w_X12_lays_30 E (D + 6) post px said 0 M0 := fun M0 hb0 hi0 => by
    refine zup_loop (fun i => ∀ M', rk M' M0 → (∀ v, v < wN f → M'.1 9 v = ownF f v said + lyL f said i v + lyR f said i v) → w_X12_lays_30 E (D + 6) post px said (nI i) M') (wN f) (fun i hi ih M' hb hri => ?_) (fun M' hb hri => ?_) 0 (by omega) M0 rk.refl (fun v hv => by
      rw [hi0 v hv]
      unfold lyL lyR
      rw [if_neg (fun z => by omega), if_neg (fun z => by omega), Int32.add_zero, Int32.add_zero])
    · have hm : M'.1 1 = f := by rw [(hb.trans hb0).w, hf]
      obtain ⟨p1, p2, p3⟩ := hk.plE hi
      refine t_X12_lays_30 (e_X12_witnesses (pk_le (wN f) i (fun z => absurd z (by omega)) (fun _ => ?_) (by rw [hm]; exact w5.1)))
      refine s_X12_ownOf (by rw [hm]; exact hk) (by rw [hm]; exact hL) (by omega) (fun M7 r7 => s_X12_passesOn (by rw [r7.w, hm]; exact hk) (by rw [r7.w, hm]; exact hL) (by omega) (fun M10 r10 => s_X12_of (what := 4) (by omega) ?_))
      have hm7 : M7.1 1 = f := by rw [r7.w, hm]
      have hm10 : M10.1 1 = f := by rw [r10.w, hm7]
      have r10' : rk M10 M' := (r10.trans r7).rk
      have ri10 : ∀ v, v < wN f → M10.1 9 v = ownF f v said + lyL f said i v + lyR f said i v := fun v hv => by
        rw [(r10.trans r7).1 9 (by decide)]; exact hri v hv
      rw [hm, hm7, hm10, p1]
      rw [show ownF f i said * passF f i said / 100 = pdF f i said from rfl]
      have s2 : ∀ M2, rk M2 M' → (∀ v, v < wN f → M2.1 9 v = ownF f v said + lyL f said i v + lyR f said (i + 1) v) → w_X12_lays_93 E (D + 6) post px said (nI i) (pdF f i said) (nI (plc f i)) M2 := fun M2 g1 g2 => by
        have hm2 : M2.1 1 = f := by rw [g1.w, hm]
        refine t_X12_lays_93 (e_X12_witnesses ?_)
        have eN : M2.1 1 (0 : Int32).toNatClampNeg - 1 = nI (wN f - 1) := by
          rw [hm2]
          show f 0 - 1 = _
          rw [w5.1]
          exact pk_sub (b := 1) (by omega)
        refine pk_le (wN f - 1) (plc f i) (fun z => t_X12_lays_126 ?_) (fun z => ?_) eN
        · rw [nI_1]
          refine ih M2 (g1.trans hb) (fun v hv => ?_)
          rw [g2 v hv, lyL_n hk hv (fun q => by have := (hk.plE hv).2.1; omega)]
        · obtain ⟨q1, q2, q3⟩ := hk.rwE (show plc f i + 1 < wN f by omega)
          rw [show (24 : Int32) + nI (plc f i) = nI (24 + plc f i) from nI_add 24 _, show nI (24 + plc f i) + 1 = nI (24 + (plc f i + 1)) from nI_1 _, nI_clamp (n := 24 + (plc f i + 1)) (by omega), hm2, q1, nI_clamp (n := rw_ f (plc f i + 1)) (by omega)]
          refine ⟨pk_in _ _ (show 24 + (plc f i + 1) < 2070 by omega), pk_in _ _ (show rw_ f (plc f i + 1) < 5 by omega), pk_in _ _ (show rw_ f (plc f i + 1) < 5 by omega), fun M13 e13 => t_X12_lays_126 ?_⟩
          rw [nI_1]
          refine ih M13 (by rw [e13]; exact rk.up.trans (g1.trans hb)) (fun v hv => ?_)
          by_cases cv : v = rw_ f (plc f i + 1)
          · subst cv
            obtain ⟨y1, y2⟩ := lyL_y (said := said) hk hi q3
            rw [e13, zup_s, g2 _ hv, y1, y2, Int32.add_zero, i_arc]
          · rw [e13, zup_n (Or.inr cv), g2 v hv, lyL_n hk hv (fun q => cv (by rw [← (hk.plE hv).2.2, q]))]
      refine pk_le (plc f i) 0 (fun z => s2 M10 r10' (fun v hv => ?_)) (fun z => ?_)
      · rw [ri10 v hv, lyR_n hk (by omega)]
      · obtain ⟨q1, q2, q3⟩ := hk.rwE (show plc f i - 1 < wN f by omega)
        rw [show (24 : Int32) + nI (plc f i) = nI (24 + plc f i) from nI_add 24 _, show nI (24 + plc f i) - 1 = nI (24 + (plc f i - 1)) by
          rw [show (1 : Int32) = nI 1 from rfl, pk_sub (by omega), show 24 + plc f i - 1 = 24 + (plc f i - 1) by omega], nI_clamp (n := 24 + (plc f i - 1)) (by omega), q1, nI_clamp (n := rw_ f (plc f i - 1)) (by omega)]
        refine ⟨pk_in _ _ (show 24 + (plc f i - 1) < 2070 by omega), pk_in _ _ (show rw_ f (plc f i - 1) < 5 by omega), pk_in _ _ (show rw_ f (plc f i - 1) < 5 by omega), fun M25 e25 => s2 M25 (by rw [e25]; exact rk.up.trans r10') (fun v hv => ?_)⟩
        by_cases cv : v = rw_ f (plc f i - 1)
        · subst cv
          obtain ⟨y1, y2⟩ := lyR_y (said := said) hk hi (show plc f (rw_ f (plc f i - 1)) + 1 = plc f i by rw [q3]; omega)
          rw [e25, zup_s, ri10 _ hv, y1, y2, Int32.add_zero]
        · rw [e25, zup_n (Or.inr cv), ri10 v hv, lyR_n hk (fun q => cv (by
            have h1 := (hk.plE hv).2.2
            rw [show plc f v = plc f i - 1 by omega] at h1
            exact h1.symm))]
    · have hm : M'.1 1 = f := by rw [(hb.trans hb0).w, hf]
      refine t_X12_lays_30 (e_X12_witnesses (pk_le (wN f) (wN f) (fun _ => hp M' (fun v hv => ?_) (hb.trans hb0)) (fun z => absurd z (by omega)) (by rw [hm]; exact w5.1)))
      rw [hri v hv]
      obtain ⟨p1, p2, p3⟩ := hk.plE hv
      unfold riseF lyL lyR
      congr 1
      · congr 1
        by_cases c : 0 < plc f v
        · rw [if_pos c, if_pos ⟨c, (hk.rwE (by omega)).2.1⟩]
        · rw [if_neg c, if_neg (fun z => c z.1)]
      · by_cases c : plc f v + 1 < wN f
        · rw [if_pos c, if_pos ⟨c, (hk.rwE c).2.1⟩]
        · rw [if_neg c, if_neg (fun z => c z.1)]
  refine e_X12_lays (zup_loop (fun i => ∀ M', rk M' M → (∀ v, v < i → M'.1 9 v = ownF f v said) → w_X12_lays_2 E (D + 6) post px said (nI i) M') (wN f) (fun i hi ih M' hb hri => ?_) (fun M' hb hri => ?_) 0 (by omega) M rk.refl (fun v hv => absurd hv (by omega)))
  · have hm : M'.1 1 = f := by rw [hb.w, hf]
    refine t_X12_lays_2 (e_X12_witnesses (pk_le (wN f) i (fun z => absurd z (by omega)) (fun _ => ?_) (by rw [hm]; exact w5.1)))
    refine s_X12_ownOf (by rw [hm]; exact hk) (by rw [hm]; exact hL) (by omega) (fun M7 r7 => ⟨pk_in i _ (by omega), fun M12 e12 => ?_⟩)
    rw [nI_clamp (by omega), hm] at e12
    rw [nI_1]
    refine ih M12 (by rw [e12]; exact rk.up.trans (r7.rk.trans hb)) (fun v hv => ?_)
    by_cases cv : v = i
    · rw [cv, e12, zup_s]
    · rw [e12, zup_n (Or.inr cv), r7.1 9 (by decide)]
      exact hri v (by omega)
  · have hm : M'.1 1 = f := by rw [hb.w, hf]
    exact t_X12_lays_2 (e_X12_witnesses (pk_le (wN f) (wN f) (fun _ => loop2 M' hb hri) (fun z => absurd z (by omega)) (by rw [hm]; exact w5.1)))
theorem s_X12_whatIsSo {post : Int32 → zM → Prop} (hk : okF (M.1 1)) (h : post (soF (M.1 1)) M) : zCi E jX12_whatIsSo (D + 2) 0 [.ref 0] M post px := by
  have t6 := hk.t
  refine e_X12_whatIsSo (zup_loop (fun i => w_X12_whatIsSo_4 E (D + 1) post px (orI (fun t => M.1 1 (54 + 3 * t + 2) <<< (nI t &&& 31)) i) (nI i) M) (tN (M.1 1)) (fun i hi ih => ?_) ?_ 0 (by omega))
  · refine t_X12_whatIsSo_4 (e_X12_things (pk_le (tN (M.1 1)) i (fun z => absurd z (by omega)) (fun _ => s_X12_ofThing (what := 2) (by omega) ?_) t6.1))
    rw [nI_1, orI_s (g := fun t => M.1 1 (54 + 3 * t + 2) <<< (nI t &&& 31)) (i := i) rfl]
    exact ih
  · exact t_X12_whatIsSo_4 (e_X12_things (pk_le (tN (M.1 1)) (tN (M.1 1)) (fun _ => h) (fun z => absurd z (by omega)) t6.1))
abbrev sdF (f : zRow) (q : Nat) : Int32 := f (12 + q) &&& soF f
theorem s_X12_saidBy {post : Int32 → zM → Prop} {q : Nat} (hk : okF (M.1 1)) (hq : q < 8) (h : post (sdF (M.1 1) q) M) : zCi E jX12_saidBy (D + 3) 0 [.ref 0, .int (nI q)] M post px := by
  refine e_X12_saidBy ?_
  rw [show (12 : Int32) + nI q = nI (12 + q) from nI_add 12 q, nI_clamp (by omega)]
  exact ⟨pk_in _ _ (show 12 + q < 2070 by omega), s_X12_whatIsSo hk h⟩
theorem s_X12_risesBy {post : Int32 → zM → Prop} {q v : Nat} (hf : M.1 1 = f) (hk : okF f) (hL : lawK f) (hq : q < 8) (hv : v < wN f) (hp : ∀ M', rk M' M → post (riseF f (sdF f q) v) M') : zCi E jX12_risesBy (D + 8) 0 [.ref 0, .int (nI q), .int (nI v)] M post px := by
  have w5 := hk.w.2
  refine e_X12_risesBy (s_X12_saidBy (by rw [hf]; exact hk) hq (s_X12_lays hf hk hL (fun M' h9 hr => ⟨pk_in v _ (by omega), ?_⟩)))
  rw [nI_clamp (by omega), h9 v hv, hf]
  exact hp M' hr
end RLAYS
