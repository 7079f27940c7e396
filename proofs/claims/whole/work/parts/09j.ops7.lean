/-! ===== the best of a row; twins, alone, between ===== -/
noncomputable def argF (b : Nat → Nat → Prop) : Nat → Option Nat
  | 0 => none
  | i + 1 => match argF b i with
    | none => some i
    | some k => @ite _ (b i k) (Classical.propDecidable _) (some i) (some k)
theorem argF_lt {b : Nat → Nat → Prop} : ∀ {i k : Nat}, argF b i = some k → k < i
  | 0, _, h => by cases h
  | i + 1, k, h => by
    unfold argF at h
    cases hA : argF b i with
    | none => rw [hA] at h; cases h; omega
    | some j =>
      have := argF_lt hA
      rw [hA] at h
      dsimp only at h
      by_cases c : b i j
      · rw [if_pos c] at h; cases h; omega
      · rw [if_neg c] at h; cases h; omega
theorem argF_n {b : Nat → Nat → Prop} {i : Nat} (h : argF b i = none) : argF b (i + 1) = some i := by rw [argF, h]
theorem argF_y {b : Nat → Nat → Prop} {i k : Nat} (h : argF b i = some k) (c : b i k) : argF b (i + 1) = some i := by
  rw [argF, h]
  exact if_pos c
theorem argF_k {b : Nat → Nat → Prop} {i k : Nat} (h : argF b i = some k) (c : ¬ b i k) : argF b (i + 1) = some k := by
  rw [argF, h]
  exact if_neg c
def oI : Option Nat → Int32
  | none => -1
  | some k => nI k
theorem nI_m1 {k : Nat} (h : k < 2 ^ 31) : ¬ nI k = -1 := fun z => by
  have h1 := nI_toInt h
  rw [z] at h1
  have h2 : (-1 : Int32).toInt = -1 := rfl
  omega
section OPG
variable {E : zEv} {D : Nat} {px : String → zM → Prop} {M : zM} {K : zM → Prop} {f : zRow}
noncomputable def reddestF (f : zRow) : Option Nat := argF (fun i k => ¬ f (29 + 5 * i + 3) ≤ f (29 + 5 * k + 3)) (wN f)
theorem s_X11_reddest {post : Int32 → zM → Prop} (hr : cR M 61 f) (hk : okF f) (hp : post (oI (reddestF f)) M) : zCi E jX11_reddest D 0 [.ref 19] M post px := by
  have w5 := hk.w
  have hn : M.1 62 6 = nI (wN f) := hr.1.1.trans w5.1
  have hs : ∀ w, w < wN f → M.1 66 w = f (29 + 5 * w + 3) := fun w hw => (hr.2.1 w hw).2.2.2.1
  refine e_X11_reddest (zup_loop (fun i => w_X11_reddest_15 E D post px (oI (argF (fun i k => ¬ f (29 + 5 * i + 3) ≤ f (29 + 5 * k + 3)) i)) (nI i) M) (wN f) (fun i hi ih => ?_) ?_ 0 (by omega))
  · refine t_X11_reddest_15 (pk_le (wN f) i (fun z => absurd z (by omega)) (fun _ => ?_) hn)
    have h45 : ∀ v, v = oI (argF (fun i k => ¬ f (29 + 5 * i + 3) ≤ f (29 + 5 * k + 3)) (i + 1)) → w_X11_reddest_45 E D post px v (nI i) M := fun v hv => t_X11_reddest_45 (by
      rw [nI_1, hv]
      exact ih)
    cases hA : argF (fun i k => ¬ f (29 + 5 * i + 3) ≤ f (29 + 5 * k + 3)) i with
    | none => exact ⟨fun _ => t_X11_reddest_43 (h45 _ (by rw [argF_n hA]; rfl)), fun z => absurd rfl z⟩
    | some k =>
      have hl := argF_lt hA
      rw [show oI (some k) = nI k from rfl, nI_clamp (n := k) (by omega), nI_clamp (n := i) (by omega), hs i hi, hs k (by omega)]
      refine ⟨fun z => absurd z (nI_m1 (by omega)), fun _ => ⟨pk_in i _ (by omega), pk_in k _ (by omega), fun z => h45 _ ?_, fun z => t_X11_reddest_43 (h45 _ ?_)⟩⟩
      · rw [argF_k hA (fun q => q z)]; rfl
      · rw [argF_y hA z]; rfl
  · exact t_X11_reddest_15 (pk_le (wN f) (wN f) (fun _ => hp) (fun z => absurd z (by omega)) hn)
theorem s_X12_reddest {post : Int32 → zM → Prop} (hf : M.1 1 = f) (hk : okF f) (hp : post (oI (reddestF f)) (zup M 0 0 0)) : zCi E jX12_reddest (D + 2) 0 [.ref 0] M post px := by
  have w5 := hk.w
  refine e_X12_reddest (fun M1 e1 => ?_)
  subst e1
  have hm : (zup M 0 0 0).1 1 = f := by rw [zup_o (by decide)]; exact hf
  refine zup_loop (fun i => w_X12_reddest_9 E (D + 1) post px (oI (argF (fun i k => ¬ f (29 + 5 * i + 3) ≤ f (29 + 5 * k + 3)) i)) (nI i) (zup M 0 0 0)) (wN f) (fun i hi ih => ?_) ?_ 0 (by omega)
  · refine t_X12_reddest_9 (e_X12_witnesses (pk_le (wN f) i (fun z => absurd z (by omega)) (fun _ => ?_) (by rw [hm]; exact w5.1)))
    have h45 : ∀ v, v = oI (argF (fun i k => ¬ f (29 + 5 * i + 3) ≤ f (29 + 5 * k + 3)) (i + 1)) → w_X12_reddest_39 E (D + 1) post px v (nI i) (zup M 0 0 0) := fun v hv => t_X12_reddest_39 (by
      rw [nI_1, hv]
      exact ih)
    cases hA : argF (fun i k => ¬ f (29 + 5 * i + 3) ≤ f (29 + 5 * k + 3)) i with
    | none => exact ⟨fun _ => t_X12_reddest_37 (h45 _ (by rw [argF_n hA]; rfl)), fun z => absurd rfl z⟩
    | some k =>
      have hl := argF_lt hA
      rw [show oI (some k) = nI k from rfl]
      refine ⟨fun z => absurd z (nI_m1 (by omega)), fun _ => s_X12_of (what := 3) (by omega) (s_X12_of (what := 3) (by omega) ?_)⟩
      rw [hm]
      refine ⟨fun z => h45 _ ?_, fun z => t_X12_reddest_37 (h45 _ ?_)⟩
      · rw [argF_k hA (fun q => q z)]; rfl
      · rw [argF_y hA z]; rfl
  · exact t_X12_reddest_9 (e_X12_witnesses (pk_le (wN f) (wN f) (fun _ => hp) (fun z => absurd z (by omega)) (by rw [hm]; exact w5.1)))
theorem op_reddest (h : Rel M) (hK : ∀ M', Rel M' → K M') : zCi E jX11_reddest (D + 20) 0 [.ref 19] M (opN E jX12_reddest (D + 20) [.ref 0] K) px :=
  s_X11_reddest h.now h.ok (fun px => s_X12_reddest rfl h.ok (n_fin h hK rfl ro.up rfl))
noncomputable def palestF (f : zRow) : Option Nat := argF (fun i k => ¬ f (29 + 5 * k + 3) ≤ f (29 + 5 * i + 3)) (wN f)
theorem s_X11_palest {post : Int32 → zM → Prop} (hr : cR M 61 f) (hk : okF f) (hp : post (oI (palestF f)) M) : zCi E jX11_palest D 0 [.ref 19] M post px := by
  have w5 := hk.w
  have hn : M.1 62 6 = nI (wN f) := hr.1.1.trans w5.1
  have hs : ∀ w, w < wN f → M.1 66 w = f (29 + 5 * w + 3) := fun w hw => (hr.2.1 w hw).2.2.2.1
  refine e_X11_palest (zup_loop (fun i => w_X11_palest_15 E D post px (oI (argF (fun i k => ¬ f (29 + 5 * k + 3) ≤ f (29 + 5 * i + 3)) i)) (nI i) M) (wN f) (fun i hi ih => ?_) ?_ 0 (by omega))
  · refine t_X11_palest_15 (pk_le (wN f) i (fun z => absurd z (by omega)) (fun _ => ?_) hn)
    have h45 : ∀ v, v = oI (argF (fun i k => ¬ f (29 + 5 * k + 3) ≤ f (29 + 5 * i + 3)) (i + 1)) → w_X11_palest_45 E D post px v (nI i) M := fun v hv => t_X11_palest_45 (by
      rw [nI_1, hv]
      exact ih)
    cases hA : argF (fun i k => ¬ f (29 + 5 * k + 3) ≤ f (29 + 5 * i + 3)) i with
    | none => exact ⟨fun _ => t_X11_palest_43 (h45 _ (by rw [argF_n hA]; rfl)), fun z => absurd rfl z⟩
    | some k =>
      have hl := argF_lt hA
      rw [show oI (some k) = nI k from rfl, nI_clamp (n := k) (by omega), nI_clamp (n := i) (by omega), hs i hi, hs k (by omega)]
      refine ⟨fun z => absurd z (nI_m1 (by omega)), fun _ => ⟨pk_in i _ (by omega), pk_in k _ (by omega), fun z => h45 _ ?_, fun z => t_X11_palest_43 (h45 _ ?_)⟩⟩
      · rw [argF_k hA (fun q => q z)]; rfl
      · rw [argF_y hA z]; rfl
  · exact t_X11_palest_15 (pk_le (wN f) (wN f) (fun _ => hp) (fun z => absurd z (by omega)) hn)
theorem s_X12_palest {post : Int32 → zM → Prop} (hf : M.1 1 = f) (hk : okF f) (hp : post (oI (palestF f)) (zup M 0 0 0)) : zCi E jX12_palest (D + 2) 0 [.ref 0] M post px := by
  have w5 := hk.w
  refine e_X12_palest (fun M1 e1 => ?_)
  subst e1
  have hm : (zup M 0 0 0).1 1 = f := by rw [zup_o (by decide)]; exact hf
  refine zup_loop (fun i => w_X12_palest_9 E (D + 1) post px (oI (argF (fun i k => ¬ f (29 + 5 * k + 3) ≤ f (29 + 5 * i + 3)) i)) (nI i) (zup M 0 0 0)) (wN f) (fun i hi ih => ?_) ?_ 0 (by omega)
  · refine t_X12_palest_9 (e_X12_witnesses (pk_le (wN f) i (fun z => absurd z (by omega)) (fun _ => ?_) (by rw [hm]; exact w5.1)))
    have h45 : ∀ v, v = oI (argF (fun i k => ¬ f (29 + 5 * k + 3) ≤ f (29 + 5 * i + 3)) (i + 1)) → w_X12_palest_39 E (D + 1) post px v (nI i) (zup M 0 0 0) := fun v hv => t_X12_palest_39 (by
      rw [nI_1, hv]
      exact ih)
    cases hA : argF (fun i k => ¬ f (29 + 5 * k + 3) ≤ f (29 + 5 * i + 3)) i with
    | none => exact ⟨fun _ => t_X12_palest_37 (h45 _ (by rw [argF_n hA]; rfl)), fun z => absurd rfl z⟩
    | some k =>
      have hl := argF_lt hA
      rw [show oI (some k) = nI k from rfl]
      refine ⟨fun z => absurd z (nI_m1 (by omega)), fun _ => s_X12_of (what := 3) (by omega) (s_X12_of (what := 3) (by omega) ?_)⟩
      rw [hm]
      refine ⟨fun z => h45 _ ?_, fun z => t_X12_palest_37 (h45 _ ?_)⟩
      · rw [argF_k hA (fun q => q z)]; rfl
      · rw [argF_y hA z]; rfl
  · exact t_X12_palest_9 (e_X12_witnesses (pk_le (wN f) (wN f) (fun _ => hp) (fun z => absurd z (by omega)) (by rw [hm]; exact w5.1)))
theorem op_palest (h : Rel M) (hK : ∀ M', Rel M' → K M') : zCi E jX11_palest (D + 20) 0 [.ref 19] M (opN E jX12_palest (D + 20) [.ref 0] K) px :=
  s_X11_palest h.now h.ok (fun px => s_X12_palest rfl h.ok (n_fin h hK rfl ro.up rfl))
noncomputable def weightiestF (f : zRow) : Option Nat := argF (fun i k => ¬ f (54 + 3 * i + 0) ≤ f (54 + 3 * k + 0)) (tN f)
theorem s_X11_weightiest {post : Int32 → zM → Prop} (hr : cR M 61 f) (hk : okF f) (hp : post (oI (weightiestF f)) M) : zCi E jX11_weightiest D 0 [.ref 19] M post px := by
  have w5 := hk.t
  have hn : M.1 61 6 = nI (tN f) := hr.1.2.1.trans w5.1
  have hs : ∀ w, w < tN f → M.1 71 w = f (54 + 3 * w + 0) := fun w hw => (hr.2.2.1 w hw).1
  refine e_X11_weightiest (zup_loop (fun i => w_X11_weightiest_4 E D post px (oI (argF (fun i k => ¬ f (54 + 3 * i + 0) ≤ f (54 + 3 * k + 0)) i)) (nI i) M) (tN f) (fun i hi ih => ?_) ?_ 0 (by omega))
  · refine t_X11_weightiest_4 (pk_le (tN f) i (fun z => absurd z (by omega)) (fun _ => ?_) hn)
    have h45 : ∀ v, v = oI (argF (fun i k => ¬ f (54 + 3 * i + 0) ≤ f (54 + 3 * k + 0)) (i + 1)) → w_X11_weightiest_43 E D post px v (nI i) M := fun v hv => t_X11_weightiest_43 (by
      rw [nI_1, hv]
      exact ih)
    cases hA : argF (fun i k => ¬ f (54 + 3 * i + 0) ≤ f (54 + 3 * k + 0)) i with
    | none => exact ⟨fun _ => t_X11_weightiest_41 (h45 _ (by rw [argF_n hA]; rfl)), fun z => absurd rfl z⟩
    | some k =>
      have hl := argF_lt hA
      rw [show oI (some k) = nI k from rfl, nI_clamp (n := k) (by omega), nI_clamp (n := i) (by omega), hs i hi, hs k (by omega)]
      refine ⟨fun z => absurd z (nI_m1 (by omega)), fun _ => ⟨pk_in i _ (by omega), pk_in k _ (by omega), fun z => h45 _ ?_, fun z => t_X11_weightiest_41 (h45 _ ?_)⟩⟩
      · rw [argF_k hA (fun q => q z)]; rfl
      · rw [argF_y hA z]; rfl
  · exact t_X11_weightiest_4 (pk_le (tN f) (tN f) (fun _ => hp) (fun z => absurd z (by omega)) hn)
theorem s_X12_weightiest {post : Int32 → zM → Prop} (hf : M.1 1 = f) (hk : okF f) (hp : post (oI (weightiestF f)) (zup M 0 0 0)) : zCi E jX12_weightiest (D + 2) 0 [.ref 0] M post px := by
  have w5 := hk.t
  refine e_X12_weightiest (fun M1 e1 => ?_)
  subst e1
  have hm : (zup M 0 0 0).1 1 = f := by rw [zup_o (by decide)]; exact hf
  refine zup_loop (fun i => w_X12_weightiest_9 E (D + 1) post px (oI (argF (fun i k => ¬ f (54 + 3 * i + 0) ≤ f (54 + 3 * k + 0)) i)) (nI i) (zup M 0 0 0)) (tN f) (fun i hi ih => ?_) ?_ 0 (by omega)
  · refine t_X12_weightiest_9 (e_X12_things (pk_le (tN f) i (fun z => absurd z (by omega)) (fun _ => ?_) (by rw [hm]; exact w5.1)))
    have h45 : ∀ v, v = oI (argF (fun i k => ¬ f (54 + 3 * i + 0) ≤ f (54 + 3 * k + 0)) (i + 1)) → w_X12_weightiest_39 E (D + 1) post px v (nI i) (zup M 0 0 0) := fun v hv => t_X12_weightiest_39 (by
      rw [nI_1, hv]
      exact ih)
    cases hA : argF (fun i k => ¬ f (54 + 3 * i + 0) ≤ f (54 + 3 * k + 0)) i with
    | none => exact ⟨fun _ => t_X12_weightiest_37 (h45 _ (by rw [argF_n hA]; rfl)), fun z => absurd rfl z⟩
    | some k =>
      have hl := argF_lt hA
      rw [show oI (some k) = nI k from rfl]
      refine ⟨fun z => absurd z (nI_m1 (by omega)), fun _ => s_X12_ofThing (what := 0) (by omega) (s_X12_ofThing (what := 0) (by omega) ?_)⟩
      rw [hm]
      refine ⟨fun z => h45 _ ?_, fun z => t_X12_weightiest_37 (h45 _ ?_)⟩
      · rw [argF_k hA (fun q => q z)]; rfl
      · rw [argF_y hA z]; rfl
  · exact t_X12_weightiest_9 (e_X12_things (pk_le (tN f) (tN f) (fun _ => hp) (fun z => absurd z (by omega)) (by rw [hm]; exact w5.1)))
theorem op_weightiest (h : Rel M) (hK : ∀ M', Rel M' → K M') : zCi E jX11_weightiest (D + 20) 0 [.ref 19] M (opN E jX12_weightiest (D + 20) [.ref 0] K) px :=
  s_X11_weightiest h.now h.ok (fun px => s_X12_weightiest rfl h.ok (n_fin h hK rfl ro.up rfl))

/-! alone -/
def bc32 (x1 : Int32) : Int32 := ((((((((x1 - ((zushr x1 (1 : Int32)) &&& (1431655765 : Int32))) &&& (858993459 : Int32)) + ((zushr (x1 - ((zushr x1 (1 : Int32)) &&& (1431655765 : Int32))) (2 : Int32)) &&& (858993459 : Int32))) + (zushr (((x1 - ((zushr x1 (1 : Int32)) &&& (1431655765 : Int32))) &&& (858993459 : Int32)) + ((zushr (x1 - ((zushr x1 (1 : Int32)) &&& (1431655765 : Int32))) (2 : Int32)) &&& (858993459 : Int32))) (4 : Int32))) &&& (252645135 : Int32)) + (zushr (((((x1 - ((zushr x1 (1 : Int32)) &&& (1431655765 : Int32))) &&& (858993459 : Int32)) + ((zushr (x1 - ((zushr x1 (1 : Int32)) &&& (1431655765 : Int32))) (2 : Int32)) &&& (858993459 : Int32))) + (zushr (((x1 - ((zushr x1 (1 : Int32)) &&& (1431655765 : Int32))) &&& (858993459 : Int32)) + ((zushr (x1 - ((zushr x1 (1 : Int32)) &&& (1431655765 : Int32))) (2 : Int32)) &&& (858993459 : Int32))) (4 : Int32))) &&& (252645135 : Int32)) (8 : Int32))) + (zushr ((((((x1 - ((zushr x1 (1 : Int32)) &&& (1431655765 : Int32))) &&& (858993459 : Int32)) + ((zushr (x1 - ((zushr x1 (1 : Int32)) &&& (1431655765 : Int32))) (2 : Int32)) &&& (858993459 : Int32))) + (zushr (((x1 - ((zushr x1 (1 : Int32)) &&& (1431655765 : Int32))) &&& (858993459 : Int32)) + ((zushr (x1 - ((zushr x1 (1 : Int32)) &&& (1431655765 : Int32))) (2 : Int32)) &&& (858993459 : Int32))) (4 : Int32))) &&& (252645135 : Int32)) + (zushr (((((x1 - ((zushr x1 (1 : Int32)) &&& (1431655765 : Int32))) &&& (858993459 : Int32)) + ((zushr (x1 - ((zushr x1 (1 : Int32)) &&& (1431655765 : Int32))) (2 : Int32)) &&& (858993459 : Int32))) + (zushr (((x1 - ((zushr x1 (1 : Int32)) &&& (1431655765 : Int32))) &&& (858993459 : Int32)) + ((zushr (x1 - ((zushr x1 (1 : Int32)) &&& (1431655765 : Int32))) (2 : Int32)) &&& (858993459 : Int32))) (4 : Int32))) &&& (252645135 : Int32)) (8 : Int32))) (16 : Int32))) &&& (63 : Int32))
noncomputable def aloG (f : zRow) (q : Nat) : Int32 := if bc32 (f (12 + q)) = 1 then f (12 + q) else 0
theorem op_alone (h : Rel M) (hK : ∀ M', Rel M' → K M') : zCi E jX11_alone (D + 20) 0 [.ref 19] M (opN E jX12_alone (D + 20) [.ref 0] K) px := by
  have q8 := h.ok.q
  have ref : opN E jX12_alone (D + 20) [.ref 0] K (orI (aloG (M.1 1)) (qN (M.1 1))) M := fun px => by
    refine e_X12_alone (fun M1 e1 => ?_)
    subst e1
    have hm : (zup M 0 0 0).1 1 = M.1 1 := zup_o (by decide)
    refine zup_loop (fun i => w_X12_alone_9 E (D + 19) (fun b M2 => orI (aloG (M.1 1)) (qN (M.1 1)) = b ∧ K M2) px (orI (aloG (M.1 1)) i) (nI i) (zup M 0 0 0)) (qN (M.1 1)) (fun i hi ih => ?_) ?_ 0 (by omega)
    · refine t_X12_alone_9 (e_X12_questions (pk_le (qN (M.1 1)) i (fun z => absurd z (by omega)) (fun _ => ?_) (by rw [hm]; exact q8.1)))
      rw [show (12 : Int32) + nI i = nI (12 + i) from nI_add 12 i, nI_clamp (by omega), hm]
      refine ⟨pk_in _ _ (show 12 + i < 2070 by omega), e_J6_bitCount_0f7a4 ⟨fun z => t_X12_alone_47 ?_, fun z => ⟨pk_in _ _ (show 12 + i < 2070 by omega), t_X12_alone_47 ?_⟩⟩⟩
      · rw [nI_1, orI_s (g := aloG (M.1 1)) (if_neg z)]; exact ih
      · rw [hm, nI_1, orI_s (g := aloG (M.1 1)) (v := M.1 1 (12 + i)) (if_pos z)]; exact ih
    · exact t_X12_alone_9 (e_X12_questions (pk_le (qN (M.1 1)) (qN (M.1 1)) (fun _ => n_fin h hK rfl ro.up rfl) (fun z => absurd z (by omega)) (by rw [hm]; exact q8.1)))
  refine e_X11_alone (zup_loop (fun i => w_X11_alone_4 E (D + 19) (opN E jX12_alone (D + 20) [.ref 0] K) px (orI (aloG (M.1 1)) i) (nI i) M) (qN (M.1 1)) (fun i hi ih => ?_) ?_ 0 (by omega))
  · refine t_X11_alone_4 (pk_le (qN (M.1 1)) i (fun z => absurd z (by omega)) (fun _ => ⟨pk_in i _ (by omega), ?_⟩) h.nQ)
    rw [nI_clamp (by omega), show M.1 73 i = M.1 1 (12 + i) from h.now.2.2.2.1 i hi]
    refine e_J6_bitCount_0f7a4 ⟨fun z => t_X11_alone_43 ?_, fun z => ⟨pk_in i _ (by omega), t_X11_alone_43 ?_⟩⟩
    · rw [nI_1, orI_z (g := aloG (M.1 1)) (if_neg z)]; exact ih
    · rw [show M.1 73 i = M.1 1 (12 + i) from h.now.2.2.2.1 i hi, nI_1, orI_s (g := aloG (M.1 1)) (v := M.1 1 (12 + i)) (if_pos z)]; exact ih
  · exact t_X11_alone_4 (pk_le (qN (M.1 1)) (qN (M.1 1)) (fun _ => ref) (fun z => absurd z (by omega)) h.nQ)
/-! between -/
theorem op_between {x y : Int32} (h : Rel M) (hK : ∀ M', Rel M' → K M') : zCWi E jL_between (D + 20) 3 [.ref 19, .int x, .int y, .ref 18] M (opR E jX12_between (D + 20) [.ref 0, .int x, .int y] K) := by
  have w5 := h.ok.w
  refine e_L_between (e_X11_between (s_X11_needTwo h.nW (fun c1 c2 c3 => ?_) (fun c => Or.inl ⟨rfl, fun px => ?_⟩) (fun c1 c2 c3 => Or.inr ⟨rfl, fun px => ?_⟩)))
  · obtain ⟨a, ha, rfl⟩ := c1.get (by omega)
    obtain ⟨b, hb, rfl⟩ := c2.get (by omega)
    obtain ⟨pa, la, -⟩ := h.ok.plE ha
    obtain ⟨pb, lb, -⟩ := h.ok.plE hb
    have ca : M.1 67 a = nI (plc (M.1 1) a) := (h.wit ha).2.2.2.2.1.trans pa
    have cb : M.1 67 b = nI (plc (M.1 1) b) := (h.wit hb).2.2.2.2.1.trans pb
    rw [nI_clamp (n := a) (by omega), nI_clamp (n := b) (by omega), ca, cb]
    generalize hA : plc (M.1 1) a = A at *
    generalize hB : plc (M.1 1) b = B at *
    rw [zmax_nI (by omega) (by omega), zmin_nI (by omega) (by omega), nI_1]
    refine ⟨pk_in a _ (by omega), pk_in b _ (by omega), pk_in a _ (by omega), pk_in b _ (by omega), ?_⟩
    have ref : ∀ M4, M4 = zupL M 18 0 (orI (fun j => 1 <<< (M.1 1 (24 + (min A B + 1 + j)) &&& 31)) (max A B - (min A B + 1))).toInt64 → opR E jX12_between (D + 20) [.ref 0, .int (nI a), .int (nI b)] K 0 M4 := fun M4 e4 px => by
      subst e4
      have e1 := bl_w4 (M := M) (x := (orI (fun j => 1 <<< (M.1 1 (24 + (min A B + 1 + j)) &&& 31)) (max A B - (min A B + 1))).toInt64) rfl
      refine e_X12_between (s_X12_noTwo (n := wN (M.1 1)) (by rw [zupL_I]; exact w5.1) (by omega) (fun _ _ _ => z0A (s_X12_of (what := 4) (by omega) (s_X12_of (what := 4) (by omega) (s_X12_of (what := 4) (by omega) (s_X12_of (what := 4) (by omega) ?_))))) (fun z => absurd ⟨c1, c2⟩ z) (fun _ _ z => absurd z c3))
      rw [e1, pa, pb, zmax_nI (by omega) (by omega), zmin_nI (by omega) (by omega), nI_1]
      have key := zup_loop (fun j => w_X12_between_52 E (D + 19) (fun b M2 => M2.1 0 0 = 0 ∧ ((0 : Int32) = 0 → M2.2 18 0 = b.toInt64) ∧ K M2) px (nI (max A B)) (orI (fun j => 1 <<< (M.1 1 (24 + (min A B + 1 + j)) &&& 31)) j) (nI (min A B + 1 + j)) (zup (zupL M 18 0 (orI (fun j => 1 <<< (M.1 1 (24 + (min A B + 1 + j)) &&& 31)) (max A B - (min A B + 1))).toInt64) 0 0 0)) (max A B - (min A B + 1)) (fun j hj ih => ?_) ?_ 0 (by omega)
      · exact key
      · refine t_X12_between_52 (pk_le (max A B) (min A B + 1 + j) (fun z => absurd z (by omega)) (fun _ => ?_))
        rw [show (24 : Int32) + nI (min A B + 1 + j) = nI (24 + (min A B + 1 + j)) from nI_add 24 _, nI_clamp (by omega), e1]
        refine ⟨pk_in _ _ (show 24 + (min A B + 1 + j) < 2070 by omega), ?_⟩
        rw [nI_1, orI_s (g := fun j => 1 <<< (M.1 1 (24 + (min A B + 1 + j)) &&& 31)) (i := j) rfl]
        exact ih
      · exact t_X12_between_52 (pk_le (max A B) (min A B + 1 + (max A B - (min A B + 1))) (fun _ => ok_fin h hK rfl ro.up rfl) (fun z => absurd z (by omega)))
    have key := zup_loop (fun j => w_X11_between_71 E (D + 18) (fun r3 M1 => ∀ M4 : zM, M4 = zupL M1 18 (0 : Int32).toNatClampNeg r3.toInt64 → opR E jX12_between (D + 20) [.ref 0, .int (nI a), .int (nI b)] K 0 M4) (fun X M9 => X = "java/lang/IndexOutOfBoundsException" ∧ opR E jX12_between (D + 20) [.ref 0, .int (nI a), .int (nI b)] K 1 M9 ∨ X = "java/lang/IllegalArgumentException" ∧ opR E jX12_between (D + 20) [.ref 0, .int (nI a), .int (nI b)] K 2 M9) (nI (max A B)) (orI (fun j => 1 <<< (M.1 1 (24 + (min A B + 1 + j)) &&& 31)) j) (nI (min A B + 1 + j)) M) (max A B - (min A B + 1)) (fun j hj ih => ?_) ?_ 0 (by omega)
    · exact key
    · refine t_X11_between_71 (pk_le (max A B) (min A B + 1 + j) (fun z => absurd z (by omega)) (fun _ => ⟨pk_in _ _ (show min A B + 1 + j < 5 by omega), ?_⟩))
      rw [nI_clamp (by omega), show M.1 68 (min A B + 1 + j) = M.1 1 (24 + (min A B + 1 + j)) from (h.wit (by omega)).2.2.2.2.2, nI_1, orI_s (g := fun j => 1 <<< (M.1 1 (24 + (min A B + 1 + j)) &&& 31)) (i := j) rfl]
      exact ih
    · exact t_X11_between_71 (pk_le (max A B) (min A B + 1 + (max A B - (min A B + 1))) (fun _ => ref) (fun z => absurd z (by omega)))
  · exact e_X12_between (s_X12_noTwo w5.1 (by omega) (fun z1 z2 _ => absurd ⟨z1, z2⟩ c) (fun _ => z1B (bad_end h hK (by decide))) (fun z1 z2 _ => absurd ⟨z1, z2⟩ c))
  · exact e_X12_between (s_X12_noTwo w5.1 (by omega) (fun _ _ z => absurd c3 z) (fun z => absurd ⟨c1, c2⟩ z) (fun _ _ _ => z1B (bad_end h hK (by decide))))
/-! twins -/
def twn (f : zRow) (a b : Nat) : Prop := f (29 + 5 * a + 0) = f (29 + 5 * b + 0) ∧ f (29 + 5 * a + 1) = f (29 + 5 * b + 1)
theorem sum_front {g : Nat → Int32} : ∀ {n : Nat}, sumI g (n + 1) = g 0 + sumI (fun j => g (j + 1)) n
  | 0 => by rw [sumI, sumI, sumI, Int32.zero_add, Int32.add_zero]
  | n + 1 => by rw [sumI, sum_front, sumI, Int32.add_assoc]
theorem sum_add {g h : Nat → Int32} : ∀ {n : Nat}, sumI (fun j => g j + h j) n = sumI g n + sumI h n
  | 0 => by rw [sumI, sumI, sumI, Int32.add_zero]
  | n + 1 => by
    rw [sumI, sumI, sumI, sum_add, ← Int32.add_assoc, ← Int32.add_assoc, i_arc (sumI g n) (sumI h n) (g n)]
/-- pairs by rows and by columns -/
theorem pairs {t : Nat → Nat → Int32} : ∀ {n : Nat}, sumI (fun a => sumI (fun j => t a (a + 1 + j)) (n - (a + 1))) n = sumI (fun b => sumI (fun a => t a b) b) n
  | 0 => rfl
  | n + 1 => by
    have e1 : sumI (fun a => sumI (fun j => t a (a + 1 + j)) (n + 1 - (a + 1))) (n + 1) = sumI (fun a => sumI (fun j => t a (a + 1 + j)) (n - (a + 1)) + t a n) n := by
      rw [sumI, show n + 1 - (n + 1) = 0 by omega, show sumI (fun j => t n (n + 1 + j)) 0 = 0 from rfl, Int32.add_zero]
      refine sumI_cong (fun a ha => ?_)
      rw [show n + 1 - (a + 1) = (n - (a + 1)) + 1 by omega, sumI, show a + 1 + (n - (a + 1)) = n by omega]
    rw [e1, sum_add, pairs, sumI]
theorem op_twins (h : Rel M) (hK : ∀ M', Rel M' → K M') : zCi E jX11_twins (D + 20) 0 [.ref 19] M (opN E jX12_twins (D + 20) [.ref 0] K) px := by
  have w5 := h.ok.w
  generalize hf : M.1 1 = f at *
  have eqv : sumI (fun a => sumI (fun j => bI (twn f a (a + 1 + j))) (wN f - (a + 1))) (wN f) = sumI (fun a => cntI (fun b => twn f a b) a) (wN f) := by
    rw [pairs (t := fun a b => bI (twn f a b))]
    exact sumI_cong (fun b _ => sumI_cong (fun a _ => bI_c ⟨fun z => ⟨z.1.symm, z.2.symm⟩, fun z => ⟨z.1.symm, z.2.symm⟩⟩))
  have ref : opN E jX12_twins (D + 20) [.ref 0] K (sumI (fun a => sumI (fun j => bI (twn f a (a + 1 + j))) (wN f - (a + 1))) (wN f)) M := fun px => by
    rw [eqv]
    refine e_X12_twins (fun M1 e1 => ?_)
    subst e1
    have hm : (zup M 0 0 0).1 1 = f := by rw [zup_o (by decide)]; exact hf
    refine zup_loop (fun i => w_X12_twins_9 E (D + 19) (fun b M2 => sumI (fun a => cntI (fun b => twn f a b) a) (wN f) = b ∧ K M2) px (sumI (fun a => cntI (fun b => twn f a b) a) i) (nI i) (zup M 0 0 0)) (wN f) (fun i hi ih => ?_) ?_ 0 (by omega)
    · refine t_X12_twins_9 (e_X12_witnesses (pk_le (wN f) i (fun z => absurd z (by omega)) (fun _ => ?_) (by rw [hm]; exact w5.1)))
      have key := zup_loop (fun j => w_X12_twins_19 E (D + 19) (fun b M2 => sumI (fun a => cntI (fun b => twn f a b) a) (wN f) = b ∧ K M2) px (sumI (fun a => cntI (fun b => twn f a b) a) i + cntI (fun b => twn f i b) j) (nI i) (nI j) (zup M 0 0 0)) i (fun j hj ihj => ?_) ?_ 0 (by omega)
      · rw [show cntI (fun b => twn f i b) 0 = 0 from rfl, Int32.add_zero] at key
        exact key
      · refine t_X12_twins_19 (pk_le i j (fun z => absurd z (by omega)) (fun _ => s_X12_of (what := 0) (by omega) (s_X12_of (what := 0) (by omega) ?_)))
        have h60 : ∀ v, cntI (fun b => twn f i b) j + v = cntI (fun b => twn f i b) (j + 1) → w_X12_twins_60 E (D + 19) (fun b M2 => sumI (fun a => cntI (fun b => twn f a b) a) (wN f) = b ∧ K M2) px (nI i) (nI j) v (sumI (fun a => cntI (fun b => twn f a b) a) i + cntI (fun b => twn f i b) j) (zup M 0 0 0) := fun v hv => t_X12_twins_60 (by
          rw [nI_1, Int32.add_assoc, hv]
          exact ihj)
        rw [hm]
        refine ⟨fun z => t_X12_twins_59 (h60 0 (cnt_0 (p := fun b => twn f i b) (fun q => z q.1))), fun z => s_X12_of (what := 1) (by omega) (s_X12_of (what := 1) (by omega) ?_)⟩
        rw [hm]
        exact ⟨fun z2 => t_X12_twins_59 (h60 0 (cnt_0 (p := fun b => twn f i b) (fun q => z2 q.2))), fun z2 => h60 1 (cnt_y (p := fun b => twn f i b) ⟨z, z2⟩)⟩
      · refine t_X12_twins_19 (pk_le i i (fun _ => ?_) (fun z => absurd z (by omega)))
        rw [nI_1]
        exact ih
    · exact t_X12_twins_9 (e_X12_witnesses (pk_le (wN f) (wN f) (fun _ => n_fin h hK rfl ro.up rfl) (fun z => absurd z (by omega)) (by rw [hm]; exact w5.1)))
  have nW : M.1 62 6 = nI (wN f) := by rw [← hf]; exact h.nW
  have c63 : ∀ i, i < wN f → M.1 63 i = f (29 + 5 * i + 0) := fun i hi => by rw [← hf] at hi ⊢; exact (h.wit hi).1
  have c64 : ∀ i, i < wN f → M.1 64 i = f (29 + 5 * i + 1) := fun i hi => by rw [← hf] at hi ⊢; exact (h.wit hi).2.1
  refine e_X11_twins (zup_loop (fun i => w_X11_twins_12 E (D + 20) (opN E jX12_twins (D + 20) [.ref 0] K) px (sumI (fun a => sumI (fun j => bI (twn f a (a + 1 + j))) (wN f - (a + 1))) i) (nI i) M) (wN f) (fun i hi ih => ?_) ?_ 0 (by omega))
  · refine t_X11_twins_12 (pk_le (wN f) i (fun z => absurd z (by omega)) (fun _ => ?_) nW)
    rw [nI_1]
    have key := zup_loop (fun j => w_X11_twins_25 E (D + 20) (opN E jX12_twins (D + 20) [.ref 0] K) px (sumI (fun a => sumI (fun j => bI (twn f a (a + 1 + j))) (wN f - (a + 1))) i + sumI (fun j => bI (twn f i (i + 1 + j))) j) (nI i) (nI (i + 1 + j)) M) (wN f - (i + 1)) (fun j hj ihj => ?_) ?_ 0 (by omega)
    · rw [show sumI (fun j => bI (twn f i (i + 1 + j))) 0 = 0 from rfl, Int32.add_zero] at key
      exact key
    · refine t_X11_twins_25 (pk_le (wN f) (i + 1 + j) (fun z => absurd z (by omega)) (fun _ => ?_) nW)
      rw [nI_clamp (n := i) (by omega), nI_clamp (n := i + 1 + j) (by omega), c63 i hi, c63 _ (by omega), c64 i hi, c64 _ (by omega)]
      have h69 : ∀ v, v = sumI (fun a => sumI (fun j => bI (twn f a (a + 1 + j))) (wN f - (a + 1))) i + sumI (fun j => bI (twn f i (i + 1 + j))) (j + 1) → w_X11_twins_69 E (D + 20) (opN E jX12_twins (D + 20) [.ref 0] K) px v (nI i) (nI (i + 1 + j)) M := fun v hv => t_X11_twins_69 (by
        rw [nI_1, hv]
        exact ihj)
      have i1 : vp_in (nI i) 5 := pk_in i _ (by omega)
      have i2 : vp_in (nI (i + 1 + j)) 5 := pk_in _ _ (show i + 1 + j < 5 by omega)
      refine ⟨i1, i2, fun z => h69 _ ?_, fun z => ⟨i1, i2, fun z2 => h69 _ ?_, fun z2 => h69 _ ?_⟩⟩
      · rw [← sumI_z (g := fun j => bI (twn f i (i + 1 + j))) (bI_f (fun q => z q.1))]
      · rw [← sumI_z (g := fun j => bI (twn f i (i + 1 + j))) (bI_f (fun q => z2 q.2))]
      · rw [← sumI_s (g := fun j => bI (twn f i (i + 1 + j))) (v := 1) (bI_t ⟨z, z2⟩), Int32.add_assoc]
    · refine t_X11_twins_25 (pk_le (wN f) (i + 1 + (wN f - (i + 1))) (fun _ => ?_) (fun z => absurd z (by omega)) nW)
      rw [nI_1]
      exact ih
  · exact t_X11_twins_12 (pk_le (wN f) (wN f) (fun _ => ref) (fun z => absurd z (by omega)) nW)
end OPG
