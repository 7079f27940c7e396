/-! ===== witness, count, so, fault; reddest, palest, weightiest ===== -/
section OPF
variable {E : zEv} {D : Nat} {px : String → zM → Prop} {M : zM} {K : zM → Prop} {f : zRow}
def allF (f : zRow) : Int32 := sumI (fun w => f (29 + 5 * w + 3)) (wN f)
theorem s_X8_allShades {post : Int32 → zM → Prop} {c : Nat} (hc : zIsC c) (hr : cR M c f) (hk : okF f) (hp : post (allF f) M) : zCi E jX8_allShades D 0 [.ref (c + 1)] M post px := by
  have w5 := hk.w
  have hn : M.1 (c + 1) 6 = nI (wN f) := hr.1.1.trans w5.1
  refine e_X8_allShades hc (zup_loop (fun i => w_X8_allShades_4 E D post px c (sumI (fun w => f (29 + 5 * w + 3)) i) (nI i) M) (wN f) (fun i hi ih => ?_) ?_ 0 (by omega))
  · refine t_X8_allShades_4 hc (pk_le (wN f) i (fun z => absurd z (by omega)) (fun _ => ⟨pk_in i _ (by omega), ?_⟩) hn)
    rw [nI_clamp (by omega), (hr.2.1 i hi).2.2.2.1, nI_1, sumI_s (g := fun w => f (29 + 5 * w + 3)) (i := i) rfl]
    exact ih
  · exact t_X8_allShades_4 hc (pk_le (wN f) (wN f) (fun _ => hp) (fun z => absurd z (by omega)) hn)
theorem s_X12_shadesOfAll {post : Int32 → zM → Prop} (hf : M.1 1 = f) (hk : okF f) (hp : post (allF f) M) : zCi E jX12_shadesOfAll (D + 2) 0 [.ref 0] M post px := by
  have w5 := hk.w
  refine e_X12_shadesOfAll (zup_loop (fun i => w_X12_shadesOfAll_4 E (D + 1) post px (sumI (fun w => f (29 + 5 * w + 3)) i) (nI i) M) (wN f) (fun i hi ih => ?_) ?_ 0 (by omega))
  · refine t_X12_shadesOfAll_4 (e_X12_witnesses (pk_le (wN f) i (fun z => absurd z (by omega)) (fun _ => s_X12_of (what := 3) (by omega) ?_) (by rw [hf]; exact w5.1)))
    rw [hf, nI_1, sumI_s (g := fun w => f (29 + 5 * w + 3)) (i := i) rfl]
    exact ih
  · exact t_X12_shadesOfAll_4 (e_X12_witnesses (pk_le (wN f) (wN f) (fun _ => hp) (fun z => absurd z (by omega)) (by rw [hf]; exact w5.1)))
noncomputable def tchF (f : zRow) (w : Nat) : Int32 := mskF (fun t => zhas (f (54 + 3 * t + 1)) (nI w)) (tN f)
theorem has_shl {p : Prop} {x : Int32} {t : Nat} (h : x &&& 1 = 1 ↔ p) : (x &&& 1) <<< (nI t &&& 31) = bitI p t := by
  by_cases c : p
  · rw [bit_y c, h.mpr c]
  · have e : x &&& 1 = 0 := by
      have h1 := and1 x
      cases hb : bt x 0 with
      | true =>
        rw [hb] at h1
        exact absurd (h.mp h1) c
      | false =>
        rw [hb] at h1
        exact h1
    rw [bit_n c, e]
    apply bt_ext
    intro i hi
    rw [bt_0]
    by_cases ht : t < 32
    · rw [bt_shl ht, bt_0, Bool.and_false]
    · show ((0 : Int32).toBitVec <<< ((nI t &&& 31).toBitVec.smod 32)).getLsbD i = false
      rw [show (0 : Int32).toBitVec = 0#32 from rfl]
      simp
theorem s_X3_touching {post : Int32 → zM → Prop} {c w : Nat} (hc : zIsC c) (hr : cR M c f) (hk : okF f) (hp : post (tchF f w) M) : zCi E jX3_touching D 0 [.ref c, .int (nI w)] M post px := by
  have t6 := hk.t
  have hn : M.1 c 6 = nI (tN f) := hr.1.2.1.trans t6.1
  refine e_X3_touching hc (zup_loop (fun i => w_X3_touching_4 E D post px c (nI w) (mskF (fun t => zhas (f (54 + 3 * t + 1)) (nI w)) i) (nI i) M) (tN f) (fun i hi ih => ?_) ?_ 0 (by omega))
  · refine t_X3_touching_4 hc (pk_le (tN f) i (fun z => absurd z (by omega)) (fun _ => ⟨pk_in i _ (by omega), ?_⟩) hn)
    rw [nI_clamp (by omega), (hr.2.2.1 i hi).2, has_shl (p := zhas (f (54 + 3 * i + 1)) (nI w)) Iff.rfl, nI_1, show mskF (fun t => zhas (f (54 + 3 * t + 1)) (nI w)) i ||| bitI (zhas (f (54 + 3 * i + 1)) (nI w)) i = mskF (fun t => zhas (f (54 + 3 * t + 1)) (nI w)) (i + 1) from rfl]
    exact ih
  · exact t_X3_touching_4 hc (pk_le (tN f) (tN f) (fun _ => hp) (fun z => absurd z (by omega)) hn)
theorem s_X12_touchedOf {post : Int32 → zM → Prop} {w : Nat} (hf : M.1 1 = f) (hk : okF f) (hp : post (tchF f w) M) : zCi E jX12_touchedOf (D + 2) 0 [.ref 0, .int (nI w)] M post px := by
  have t6 := hk.t
  refine e_X12_touchedOf (zup_loop (fun i => w_X12_touchedOf_4 E (D + 1) post px (nI w) (mskF (fun t => zhas (f (54 + 3 * t + 1)) (nI w)) i) (nI i) M) (tN f) (fun i hi ih => ?_) ?_ 0 (by omega))
  · refine t_X12_touchedOf_4 (e_X12_things (pk_le (tN f) i (fun z => absurd z (by omega)) (fun _ => s_X12_ofThing (what := 1) (by omega) (s_X12_has ?_)) (by rw [hf]; exact t6.1)))
    rw [hf]
    by_cases c : zhas (f (54 + 3 * i + 1)) (nI w)
    · rw [if_pos c]
      refine z1B (t_X12_touchedOf_33 ?_)
      rw [nI_1, msk_y (p := fun t => zhas (f (54 + 3 * t + 1)) (nI w)) c]
      exact ih
    · rw [if_neg c]
      refine z0A (t_X12_touchedOf_33 ?_)
      rw [nI_1, msk_0 (p := fun t => zhas (f (54 + 3 * t + 1)) (nI w)) c]
      exact ih
  · exact t_X12_touchedOf_4 (e_X12_things (pk_le (tN f) (tN f) (fun _ => hp) (fun z => absurd z (by omega)) (by rw [hf]; exact t6.1)))
noncomputable def leanF (f : zRow) (t : Nat) : Int32 := mskF (fun q => zhas (f (12 + q)) (nI t)) (qN f)
theorem s_X3_leaning {post : Int32 → zM → Prop} {c t : Nat} (hc : zIsC c) (hr : cR M c f) (hk : okF f) (hp : post (leanF f t) M) : zCi E jX3_leaning D 0 [.ref c, .int (nI t)] M post px := by
  have q8 := hk.q
  have hn : M.1 c 7 = nI (qN f) := hr.1.2.2.1.trans q8.1
  refine e_X3_leaning hc (zup_loop (fun i => w_X3_leaning_4 E D post px c (nI t) (mskF (fun q => zhas (f (12 + q)) (nI t)) i) (nI i) M) (qN f) (fun i hi ih => ?_) ?_ 0 (by omega))
  · refine t_X3_leaning_4 hc (pk_le (qN f) i (fun z => absurd z (by omega)) (fun _ => ⟨pk_in i _ (by omega), ?_⟩) hn)
    rw [nI_clamp (by omega), hr.2.2.2.1 i hi, has_shl (p := zhas (f (12 + i)) (nI t)) Iff.rfl, nI_1, show mskF (fun q => zhas (f (12 + q)) (nI t)) i ||| bitI (zhas (f (12 + i)) (nI t)) i = mskF (fun q => zhas (f (12 + q)) (nI t)) (i + 1) from rfl]
    exact ih
  · exact t_X3_leaning_4 hc (pk_le (qN f) (qN f) (fun _ => hp) (fun z => absurd z (by omega)) hn)
theorem s_X12_saying {post : Int32 → zM → Prop} {t : Nat} (hf : M.1 1 = f) (hk : okF f) (hp : post (leanF f t) M) : zCi E jX12_saying (D + 2) 0 [.ref 0, .int (nI t)] M post px := by
  have q8 := hk.q
  refine e_X12_saying (zup_loop (fun i => w_X12_saying_4 E (D + 1) post px (nI t) (mskF (fun q => zhas (f (12 + q)) (nI t)) i) (nI i) M) (qN f) (fun i hi ih => ?_) ?_ 0 (by omega))
  · refine t_X12_saying_4 (e_X12_questions (pk_le (qN f) i (fun z => absurd z (by omega)) (fun _ => ?_) (by rw [hf]; exact q8.1)))
    rw [show (12 : Int32) + nI i = nI (12 + i) from nI_add 12 i, nI_clamp (by omega), hf]
    refine ⟨pk_in _ _ (show 12 + i < 2070 by omega), s_X12_has ?_⟩
    by_cases c : zhas (f (12 + i)) (nI t)
    · rw [if_pos c]
      refine z1B (t_X12_saying_36 ?_)
      rw [nI_1, msk_y (p := fun q => zhas (f (12 + q)) (nI t)) c]
      exact ih
    · rw [if_neg c]
      refine z0A (t_X12_saying_36 ?_)
      rw [nI_1, msk_0 (p := fun q => zhas (f (12 + q)) (nI t)) c]
      exact ih
  · exact t_X12_saying_4 (e_X12_questions (pk_le (qN f) (qN f) (fun _ => hp) (fun z => absurd z (by omega)) (by rw [hf]; exact q8.1)))
/-- what is known of a witness -/
noncomputable def witF (f : zRow) (w a : Nat) : Int32 := if a = 5 then fallF f w else if a = 6 then (if allF f = 0 then 0 else 100 * f (29 + 5 * w + 3) / allF f) else if a = 7 then tchF f w else if a = 8 then foutF f w else f (29 + 5 * w + a)
theorem s_X11_witness {post : Int32 → zM → Prop} {x y : Int32} (h : Rel M) (h0 : ∀ w a M1, w < wN (M.1 1) → a ≤ 8 → x = nI w → y = nI a → bl M1 M → post (witF (M.1 1) w a) M1) (h1 : ¬ zv x (wN (M.1 1)) → px "java/lang/IndexOutOfBoundsException" M) (h2 : zv x (wN (M.1 1)) → ¬ zr y 0 8 → px "java/util/NoSuchElementException" M) : zCi E jX11_witness (D + 12) 2 [.ref 19, .int x, .int y] M post px := by
  have w5 := h.ok.w
  refine e_X11_witness (s_X11_needWitness h.nW (fun c => ?_) h1)
  obtain ⟨w, hw, rfl⟩ := c.get (by omega)
  obtain ⟨r0, r1, r2, r3, r4, r5⟩ := h.wit hw
  have hin : vp_in (nI w) 5 := pk_in w _ (by omega)
  rw [nI_clamp (by omega)]
  have H : ∀ a M1, a ≤ 8 → y = nI a → bl M1 M → post (witF (M.1 1) w a) M1 := fun a M1 q1 q2 q3 => h0 w a M1 hw q1 rfl q2 q3
  refine ⟨fun z => ⟨hin, ?_⟩, fun y0 => ⟨fun z => ⟨hin, ?_⟩, fun y1 => ⟨fun z => ⟨hin, ?_⟩, fun y2 => ⟨fun z => ⟨hin, ?_⟩, fun y3 => ⟨fun z => ⟨hin, ?_⟩, fun y4 => ⟨fun z => ?_, fun y5 => ⟨fun z => ?_, fun y6 => ⟨fun z => ?_, fun y7 => ⟨fun z => ?_, fun y8 => h2 c (fun q => ?_)⟩⟩⟩⟩⟩⟩⟩⟩⟩
  · have := H 0 M (by decide) z bl.refl
    rw [show M.1 63 w = M.1 1 (29 + 5 * w + 0) from r0]; exact this
  · have := H 1 M (by decide) z bl.refl
    rw [show M.1 64 w = M.1 1 (29 + 5 * w + 1) from r1]; exact this
  · have := H 2 M (by decide) z bl.refl
    rw [show M.1 65 w = M.1 1 (29 + 5 * w + 2) from r2]; exact this
  · have := H 3 M (by decide) z bl.refl
    rw [show M.1 66 w = M.1 1 (29 + 5 * w + 3) from r3]; exact this
  · have := H 4 M (by decide) z bl.refl
    rw [show M.1 67 w = M.1 1 (29 + 5 * w + 4) from r4]; exact this
  · refine s_X1_fallsBy zc61 h.now hw h.ok h.law (fun M' hb => ?_)
    have := H 5 M' (by decide) z hb.bl
    rw [show witF (M.1 1) w 5 = 10 - M.1 1 7 + lsumF (M.1 1) 1 w (wtF (M.1 1) w 0) from rfl, wt_0 h.ok] at this
    exact this
  · refine e_X11_shareOf (s_X8_allShades zc61 h.now h.ok ?_)
    have := H 6 M (by decide) z bl.refl
    rw [show witF (M.1 1) w 6 = (if allF (M.1 1) = 0 then 0 else 100 * M.1 1 (29 + 5 * w + 3) / allF (M.1 1)) from rfl] at this
    rw [nI_clamp (by omega), show M.1 66 w = M.1 1 (29 + 5 * w + 3) from r3, Int32.mul_comm (M.1 1 (29 + 5 * w + 3)) 100]
    refine ⟨fun z2 => ⟨hin, z2, t_X11_shareOf_36 ?_⟩, fun z2 => t_X11_shareOf_36 ?_⟩
    · rw [if_neg z2] at this; exact this
    · rw [if_pos z2] at this; exact this
  · exact s_X3_touching zc61 h.now h.ok (H 7 M (by decide) z bl.refl)
  · exact s_X11_foundOut h.now h.ok h.law hw (fun M' hb => H 8 M' (by decide) z hb)
  · obtain ⟨a, -, ha, rfl⟩ := q.get (by decide) (by decide)
    have : a = 0 ∨ a = 1 ∨ a = 2 ∨ a = 3 ∨ a = 4 ∨ a = 5 ∨ a = 6 ∨ a = 7 ∨ a = 8 := by omega
    rcases this with rfl | rfl | rfl | rfl | rfl | rfl | rfl | rfl | rfl
    · exact y0 rfl
    · exact y1 rfl
    · exact y2 rfl
    · exact y3 rfl
    · exact y4 rfl
    · exact y5 rfl
    · exact y6 rfl
    · exact y7 rfl
    · exact y8 rfl
theorem zr_of {a lo hi : Nat} (h1 : lo ≤ a) (h2 : a ≤ hi) (hh : hi < 2 ^ 31) : zr (nI a) lo hi := ⟨nI_nlt h1 (by omega), nI_le h2 hh⟩
theorem s_X12_witness {post : Int32 → zM → Prop} {w a : Nat} (hf : M.1 1 = f) (hk : okF f) (hL : lawK f) (hw : w < wN f) (ha : a ≤ 8) (hp : ∀ M2, rk M2 (zup M 0 0 0) → post (witF f w a) M2) : zCi E jX12_witness (D + 10) 0 [.ref 0, .int (nI w), .int (nI a)] M post px := by
  have w5 := hk.w
  refine e_X12_witness (fun M1 e1 => ?_)
  subst e1
  have e1 : (zup M 0 0 0).1 1 = f := by rw [zup_o (by decide)]; exact hf
  refine s_X12_noWitness (n := wN f) (by rw [e1]; exact w5.1) (by omega) (fun _ => s_throws0 (z0B (s_in_rg (a := 0) (b := 8) (fun _ => z1A (t_X12_witness_34 (s_throws0 (z0A ?_)))) (fun z => absurd (zr_of (by omega) ha (by decide)) z)))) (fun z => absurd (zv.of hw (by omega)) z)
  unfold witF at hp
  refine pk_eq a 5 (fun z => ?_) (fun z5 => pk_eq a 6 (fun z => ?_) (fun z6 => pk_eq a 7 (fun z => ?_) (fun z7 => pk_eq a 8 (fun z => ?_) (fun z8 => ?_))))
  · rw [if_pos z] at hp
    refine s_X12_fallsBy (by rw [e1]; exact hk) (by rw [e1]; exact hL) (by omega) (fun M' hr => ?_)
    rw [e1]; exact hp M' hr.rk
  · rw [if_neg z5, if_pos z] at hp
    refine s_X12_shadesOfAll e1 hk ⟨fun z2 => s_X12_of (what := 3) (by omega) (s_X12_shadesOfAll e1 hk ⟨z2, t_X12_witness_107 ?_⟩), fun z2 => t_X12_witness_107 ?_⟩
    · rw [if_neg z2] at hp
      rw [e1]; exact hp _ rk.refl
    · rw [if_pos z2] at hp
      exact hp _ rk.refl
  · rw [if_neg z5, if_neg z6, if_pos z] at hp
    exact s_X12_touchedOf e1 hk (hp _ rk.refl)
  · rw [if_neg z5, if_neg z6, if_neg z7, if_pos z] at hp
    exact s_X12_foundOut e1 hk hL hw (fun M' hr => hp M' hr)
  · rw [if_neg z5, if_neg z6, if_neg z7, if_neg z8] at hp
    refine s_X12_of (by omega) ?_
    rw [e1]; exact hp _ rk.refl
theorem op_witness {x y : Int32} (h : Rel M) (hK : ∀ M', Rel M' → K M') : zCWi E jL_witness (D + 20) 2 [.ref 19, .int x, .int y, .ref 18] M (opR E jX12_witness (D + 20) [.ref 0, .int x, .int y] K) := by
  have w5 := h.ok.w
  refine e_L_witness (s_X11_witness h (fun w a M1 hw ha ex ey hb M4 e4 px => ?_) (fun c => Or.inl ⟨rfl, fun px => ?_⟩) (fun c c2 => Or.inr ⟨rfl, fun px => ?_⟩))
  · subst ex ey
    rw [n0] at e4
    subst e4
    exact s_X12_witness (by rw [zupL_I]; exact zpi_w hb.pi) h.ok h.lk hw ha (fun M2 r2 => ok_fin h hK hb.pi (ro.rk r2) rfl)
  · exact e_X12_witness (fun M1 e1 => s_X12_noWitness (n := wN (M.1 1)) (by rw [e1]; exact w5.1) (by omega) (fun z => absurd z c) (fun _ => s_throws1 (z1A (t_X12_witness_41 (by rw [e1]; exact bad_end h hK (by decide))))))
  · exact e_X12_witness (fun M1 e1 => s_X12_noWitness (n := wN (M.1 1)) (by rw [e1]; exact w5.1) (by omega) (fun _ => s_throws0 (z0B (s_in_rg (a := 0) (b := 8) (fun z => absurd z c2) (fun _ => z0B (t_X12_witness_34 (s_throws1 (z1B (t_X12_witness_41 (by rw [e1]; exact bad_end h hK (by decide)))))))))) (fun z => absurd c z))
/-! fault, so, count -/
theorem op_fault (h : Rel M) (hK : ∀ M', Rel M' → K M') : zCi E jX11_fault (D + 20) 0 [.ref 19] M (opN E jX12_fault (D + 20) [.ref 0] K) px :=
  e_X11_fault (fun px => e_X12_fault (fun M1 e1 => by
    subst e1
    exact n_fin h hK rfl ro.up (by rw [zup_n (Or.inr (by decide))]; exact h.wrong)))
theorem op_so (h : Rel M) (hK : ∀ M', Rel M' → K M') : zCi E jX11_so (D + 20) 0 [.ref 19] M (opN E jX12_so (D + 20) [.ref 0] K) px := by
  refine e_X11_so (fun px => e_X12_so (fun M1 e1 => ?_))
  subst e1
  have e1 : (zup M 0 0 0).1 1 = M.1 1 := zup_o (by decide)
  refine s_X12_whatIsSo (by rw [e1]; exact h.ok) ?_
  exact n_fin h hK rfl ro.up (by rw [e1]; exact h.so)
theorem Rel.lines (h : Rel M) : M.1 36 6 = if M.1 1 5 = 1 then M.1 1 372 else -1 := by
  rcases isN1 h.ok.1.2.2.2.2.2.1 with c | c
  · rw [if_neg (by rw [c]; decide)]
    exact h.law.1 c
  · rw [if_pos c]
    obtain ⟨n, -, a, b, -⟩ := h.law.2 c
    rw [a, b]
theorem op_count {x : Int32} (h : Rel M) (hK : ∀ M', Rel M' → K M') : zCi E jX11_count (D + 20) 0 [.ref 19, .int x] M (opN E jX12_count (D + 20) [.ref 0, .int x] K) px := by
  have e1 : (zup M 0 0 0).1 1 = M.1 1 := zup_o (by decide)
  obtain ⟨s0, s1, s2, s3, s4, s5, s6, s7, s8, s9, s10⟩ := h.now.1
  have key : ∀ v : Int32, (x ≠ 5 → x ≠ 8 → x ≠ 9 → x ≠ 10 → (∀ a, a ≤ 7 → x = nI a → v = M.1 1 a) ∧ (¬ zr x 0 7 → v = -1)) → (x = 5 → v = M.1 36 6) → (x = 8 → v = allF (M.1 1)) → (x = 9 → v = M.1 1 10) → (x = 10 → v = M.1 0 7) → opN E jX12_count (D + 20) [.ref 0, .int x] K v M := fun v k1 k5 k8 k9 k10 px => by
    refine e_X12_count (fun M1 em => ?_)
    subst em
    rw [e1]
    have fin : ∀ b, v = b → v = b ∧ K (zup M 0 0 0) := fun b hb => n_fin h hK rfl ro.up hb
    have gen : x ≠ 5 → x ≠ 8 → x ≠ 9 → x ≠ 10 → zCi E jX12_in (D + 19) 0 [.int x, .int 0, .int 7] (zup M 0 0 0) (fun r13 M11 => ((r13 = 0 → w_X12_count_105 E (D + 19) (fun b M2 => v = b ∧ K M2) px (-1 : Int32) M11) ∧ (¬ r13 = 0 → vp_in x 2070 ∧ w_X12_count_105 E (D + 19) (fun b M2 => v = b ∧ K M2) px (M11.1 1 x.toNatClampNeg) M11))) px := fun n5 n8 n9 n10 => by
      refine s_in_rg (a := 0) (b := 7) (fun z => ?_) (fun z => z0A (t_X12_count_105 (fin _ ((k1 n5 n8 n9 n10).2 z))))
      obtain ⟨a, -, ha, rfl⟩ := z.get (by decide) (by decide)
      refine z1B ⟨pk_in a _ (by omega), t_X12_count_105 (fin _ ?_)⟩
      rw [e1, nI_clamp (by omega)]
      exact (k1 n5 n8 n9 n10).1 a ha rfl
    refine ⟨fun z => ?_, fun n5 => ⟨fun z => gen n5 (by rw [z]; decide) (by rw [z]; decide) (by rw [z]; decide), fun n6 => ⟨fun z => gen n5 (by rw [z]; decide) (by rw [z]; decide) (by rw [z]; decide), fun n7 => ⟨fun z => s_X12_shadesOfAll e1 h.ok (fin _ (k8 z)), fun n8 => ⟨fun z => fin _ (k9 z), fun n9 => ⟨fun z => ?_, fun n10 => gen n5 n8 n9 n10⟩⟩⟩⟩⟩⟩
    · have := h.lines
      refine ⟨fun z2 => t_X12_count_66 (fin _ ?_), fun z2 => t_X12_count_66 (fin _ ?_)⟩
      · rw [k5 z, this, if_neg (show ¬ M.1 1 5 = 1 from z2)]
      · rw [k5 z, this, if_pos (show M.1 1 5 = 1 from z2)]
        rfl
    · refine fin _ ?_
      rw [zup_n (Or.inr (by decide))]
      exact k10 z
  have lit : ∀ (v : Int32) (a : Nat), a ≤ 7 → a ≠ 5 → x = nI a → v = M.1 1 a → opN E jX12_count (D + 20) [.ref 0, .int x] K v M := fun v a ha n5 ex ev => by
    have ne : ∀ b : Nat, b ≤ 10 → b ≠ a → x ≠ nI b := fun b hb hn z => hn ((nI_eq (by omega) (by omega)).mp (z.symm.trans ex))
    refine key v (fun _ _ _ _ => ⟨fun a' ha' ex' => ?_, fun z => absurd (by rw [ex]; exact zr_of (by omega) ha (by decide)) z⟩) (fun z => absurd z (ne 5 (by decide) (by omega))) (fun z => absurd z (ne 8 (by decide) (by omega))) (fun z => absurd z (ne 9 (by decide) (by omega))) (fun z => absurd z (ne 10 (by decide) (by omega)))
    rw [show a' = a from (nI_eq (by omega) (by omega)).mp (ex'.symm.trans ex)]
    exact ev
  refine e_X11_count ⟨fun z => lit _ 0 (by decide) (by decide) z s0, fun n0 => ⟨fun z => lit _ 1 (by decide) (by decide) z s1, fun n1 => ⟨fun z => lit _ 2 (by decide) (by decide) z s2, fun n2 => ⟨fun z => lit _ 3 (by decide) (by decide) z s3, fun n3 => ⟨fun z => lit _ 4 (by decide) (by decide) z s4, fun n4 => ⟨fun z => ?_, fun n5 => ⟨fun z => lit _ 6 (by decide) (by decide) z s9, fun n6 => ⟨fun z => lit _ 7 (by decide) (by decide) z s6, fun n7 => ⟨fun z => s_X8_allShades zc61 h.now h.ok ?_, fun n8 => ⟨fun z => ?_, fun n9 => ⟨fun z => ?_, fun n10 => ?_⟩⟩⟩⟩⟩⟩⟩⟩⟩⟩⟩
  · exact key _ (fun n => absurd z n) (fun _ => rfl) (fun q => absurd (z.symm.trans q) (by decide)) (fun q => absurd (z.symm.trans q) (by decide)) (fun q => absurd (z.symm.trans q) (by decide))
  · exact key _ (fun _ n => absurd z n) (fun q => absurd (z.symm.trans q) (by decide)) (fun _ => rfl) (fun q => absurd (z.symm.trans q) (by decide)) (fun q => absurd (z.symm.trans q) (by decide))
  · exact key _ (fun _ _ n => absurd z n) (fun q => absurd (z.symm.trans q) (by decide)) (fun q => absurd (z.symm.trans q) (by decide)) (fun _ => h.now.2.2.2.2.2.1) (fun q => absurd (z.symm.trans q) (by decide))
  · obtain ⟨n, nx, a1, a2, a3, a4, -⟩ := h.his
    exact key _ (fun _ _ _ n => absurd z n) (fun q => absurd (z.symm.trans q) (by decide)) (fun q => absurd (z.symm.trans q) (by decide)) (fun q => absurd (z.symm.trans q) (by decide)) (fun _ => a4.trans a3.symm)
  · refine key _ (fun _ _ _ _ => ⟨fun a ha ex => ?_, fun _ => rfl⟩) (fun q => absurd q n5) (fun q => absurd q n8) (fun q => absurd q n9) (fun q => absurd q n10)
    have : a = 0 ∨ a = 1 ∨ a = 2 ∨ a = 3 ∨ a = 4 ∨ a = 5 ∨ a = 6 ∨ a = 7 := by omega
    rcases this with rfl | rfl | rfl | rfl | rfl | rfl | rfl | rfl
    · exact absurd ex n0
    · exact absurd ex n1
    · exact absurd ex n2
    · exact absurd ex n3
    · exact absurd ex n4
    · exact absurd ex n5
    · exact absurd ex n6
    · exact absurd ex n7
end OPF
