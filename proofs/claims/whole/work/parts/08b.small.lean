/-! ===== the reference's small methods ===== -/
section RB
variable {E : zEv} {D : Nat} {post : Int32 → zM → Prop} {px : String → zM → Prop} {M : zM}
theorem zup_s {M : zM} {o j : Nat} {v : Int32} : (zup M o j v).1 o j = v := if_pos ⟨rfl, rfl⟩
theorem zup_n {M : zM} {o j a i : Nat} {v : Int32} (h : a ≠ o ∨ i ≠ j) : (zup M o j v).1 a i = M.1 a i := if_neg (fun z => h.elim (fun q => q z.1) (fun q => q z.2))
theorem zupL_s {M : zM} {o j : Nat} {v : Int64} : (zupL M o j v).2 o j = v := if_pos ⟨rfl, rfl⟩
theorem zupL_n {M : zM} {o j a i : Nat} {v : Int64} (h : a ≠ o ∨ i ≠ j) : (zupL M o j v).2 a i = M.2 a i := if_neg (fun z => h.elim (fun q => q z.1) (fun q => q z.2))
theorem zbt {c : Prop} [Decidable c] {A B : Prop} (h1 : c → A) (h2 : ¬ c → B) : (c → A) ∧ (¬ c → B) := ⟨h1, h2⟩
theorem s_X12_in {x1 x2 x3 : Int32} (h : post (if x2 ≤ x1 ∧ x1 ≤ x3 then 1 else 0) M) : zCi E jX12_in D 0 [.int x1, .int x2, .int x3] M post px := by
  refine e_X12_in ⟨fun c => ?_, fun c => ⟨fun c2 => ?_, fun c2 => ?_⟩⟩
  · rw [if_neg (fun z => by have := z.1; rw [fa_lt] at c; rw [fa_le] at this; omega)] at h
    exact t_X12_in_14 (t_X12_in_15 ⟨Or.inl rfl, h⟩)
  · rw [if_neg (fun z => by have := z.2; rw [fa_lt] at c2; rw [fa_le] at this; omega)] at h
    exact t_X12_in_14 (t_X12_in_15 ⟨Or.inl rfl, h⟩)
  · rw [if_pos ⟨fa_of_nlt c, fa_of_nlt c2⟩] at h
    exact t_X12_in_15 ⟨Or.inr rfl, h⟩
theorem s_throws0 {x2 : Int32} (h : post 0 M) : zCi E jX12_throwsIf D 0 [.ref 0, .int 0, .int x2] M post px := e_X12_throwsIf ⟨fun _ => t_X12_throwsIf_9 ⟨Or.inl rfl, h⟩, fun z => absurd rfl z⟩
theorem s_throws1 {x2 : Int32} (h : post 1 (zup M 0 0 x2)) : zCi E jX12_throwsIf D 0 [.ref 0, .int 1, .int x2] M post px := e_X12_throwsIf ⟨fun z => absurd z (by decide), fun _ M4 e => by rw [e]; exact t_X12_throwsIf_9 ⟨Or.inr rfl, h⟩⟩
theorem z0A {A B : Prop} (h : A) : ((0 : Int32) = 0 → A) ∧ (¬ (0 : Int32) = 0 → B) := ⟨fun _ => h, fun z => absurd rfl z⟩
theorem z0B {A B : Prop} (h : B) : (¬ (0 : Int32) = 0 → A) ∧ ((0 : Int32) = 0 → B) := ⟨fun z => absurd rfl z, fun _ => h⟩
theorem z1A {A B : Prop} (h : A) : (¬ (1 : Int32) = 0 → A) ∧ ((1 : Int32) = 0 → B) := ⟨fun _ => h, fun z => absurd z (by decide)⟩
theorem z1B {A B : Prop} (h : B) : ((1 : Int32) = 0 → A) ∧ (¬ (1 : Int32) = 0 → B) := ⟨fun z => absurd z (by decide), fun _ => h⟩
abbrev zhas (s k : Int32) : Prop := (s >>> (k &&& 31)) &&& 1 = 1
theorem s_X12_has {x1 x2 : Int32} (h : post (if zhas x1 x2 then 1 else 0) M) : zCi E jX12_has D 0 [.int x1, .int x2] M post px := by
  refine e_X12_has ⟨fun c => ?_, fun c => ?_⟩
  · rw [if_neg c] at h
    exact t_X12_has_14 ⟨Or.inl rfl, h⟩
  · rw [if_pos c] at h
    exact t_X12_has_14 ⟨Or.inr rfl, h⟩
theorem ixW (w what : Nat) : ((29 : Int32) + 5 * nI w) + nI what = nI (29 + 5 * w + what) := by
  rw [show (29 : Int32) = nI 29 from rfl, show (5 : Int32) = nI 5 from rfl, pk_mul, nI_add, nI_add]
theorem ixT (t what : Nat) : ((54 : Int32) + 3 * nI t) + nI what = nI (54 + 3 * t + what) := by
  rw [show (54 : Int32) = nI 54 from rfl, show (3 : Int32) = nI 3 from rfl, pk_mul, nI_add, nI_add]
theorem s_X12_at {w what : Nat} (h : post (nI (29 + 5 * w + what)) M) : zCi E jX12_at D 0 [.int (nI w), .int (nI what)] M post px := by
  refine e_X12_at ?_
  rw [ixW]; exact h
theorem s_X12_thingAt {t what : Nat} (h : post (nI (54 + 3 * t + what)) M) : zCi E jX12_thingAt D 0 [.int (nI t), .int (nI what)] M post px := by
  refine e_X12_thingAt ?_
  rw [ixT]; exact h
theorem s_X12_of {w what : Nat} (hi : 29 + 5 * w + what < 2070) (h : post (M.1 1 (29 + 5 * w + what)) M) : zCi E jX12_of (D + 1) 0 [.ref 0, .int (nI w), .int (nI what)] M post px := by
  refine e_X12_of (s_X12_at ⟨pk_in _ _ hi, ?_⟩)
  rw [nI_clamp (by omega)]; exact h
theorem s_X12_ofThing {t what : Nat} (hi : 54 + 3 * t + what < 2070) (h : post (M.1 1 (54 + 3 * t + what)) M) : zCi E jX12_ofThing (D + 1) 0 [.ref 0, .int (nI t), .int (nI what)] M post px := by
  refine e_X12_ofThing (s_X12_thingAt ⟨pk_in _ _ hi, ?_⟩)
  rw [nI_clamp (by omega)]; exact h
theorem s_X12_allThings (h : post ((1 <<< (M.1 1 1 &&& 31)) - 1) M) : zCi E jX12_allThings (D + 1) 0 [.ref 0] M post px := e_X12_allThings (e_X12_things h)
theorem s_X12_noWitness {x : Int32} {n : Nat} (hn : M.1 1 0 = nI n) (hb : n < 2 ^ 30) (h0 : zv x n → post 0 M) (h1 : ¬ zv x n → post 1 M) : zCi E jX12_noWitness (D + 1) 0 [.ref 0, .int x] M post px := by
  refine e_X12_noWitness (e_X12_witnesses (s_X12_in ?_))
  show (¬ (if 0 ≤ x ∧ x ≤ M.1 1 0 - 1 then (1 : Int32) else 0) = 0 → _) ∧ ((if 0 ≤ x ∧ x ≤ M.1 1 0 - 1 then (1 : Int32) else 0) = 0 → _)
  rw [hn]
  by_cases c : zv x n
  · rw [if_pos ((zv_in hb).mpr c)]
    exact z1A (t_X12_noWitness_19 ⟨Or.inl rfl, h0 c⟩)
  · rw [if_neg (fun z => c ((zv_in hb).mp z))]
    exact z0B (t_X12_noWitness_19 ⟨Or.inr rfl, h1 c⟩)
theorem s_X12_noThing {x : Int32} {n : Nat} (hn : M.1 1 1 = nI n) (hb : n < 2 ^ 30) (h0 : zv x n → post 0 M) (h1 : ¬ zv x n → post 1 M) : zCi E jX12_noThing (D + 1) 0 [.ref 0, .int x] M post px := by
  refine e_X12_noThing (e_X12_things (s_X12_in ?_))
  show (¬ (if 0 ≤ x ∧ x ≤ M.1 1 1 - 1 then (1 : Int32) else 0) = 0 → _) ∧ ((if 0 ≤ x ∧ x ≤ M.1 1 1 - 1 then (1 : Int32) else 0) = 0 → _)
  rw [hn]
  by_cases c : zv x n
  · rw [if_pos ((zv_in hb).mpr c)]
    exact z1A (t_X12_noThing_19 ⟨Or.inl rfl, h0 c⟩)
  · rw [if_neg (fun z => c ((zv_in hb).mp z))]
    exact z0B (t_X12_noThing_19 ⟨Or.inr rfl, h1 c⟩)
theorem s_X12_noQuestion {x : Int32} {n : Nat} (hn : M.1 1 2 = nI n) (hb : n < 2 ^ 30) (h0 : zv x n → post 0 M) (h1 : ¬ zv x n → post 1 M) : zCi E jX12_noQuestion (D + 1) 0 [.ref 0, .int x] M post px := by
  refine e_X12_noQuestion (e_X12_questions (s_X12_in ?_))
  show (¬ (if 0 ≤ x ∧ x ≤ M.1 1 2 - 1 then (1 : Int32) else 0) = 0 → _) ∧ ((if 0 ≤ x ∧ x ≤ M.1 1 2 - 1 then (1 : Int32) else 0) = 0 → _)
  rw [hn]
  by_cases c : zv x n
  · rw [if_pos ((zv_in hb).mpr c)]
    exact z1A (t_X12_noQuestion_19 ⟨Or.inl rfl, h0 c⟩)
  · rw [if_neg (fun z => c ((zv_in hb).mp z))]
    exact z0B (t_X12_noQuestion_19 ⟨Or.inr rfl, h1 c⟩)
theorem s_X12_noWoman {x : Int32} {n : Nat} (hn : M.1 1 3 = nI n) (hb : n < 2 ^ 30) (h0 : zv x n → post 0 M) (h1 : ¬ zv x n → post 1 M) : zCi E jX12_noWoman (D + 1) 0 [.ref 0, .int x] M post px := by
  refine e_X12_noWoman (e_X12_women (s_X12_in ?_))
  show (¬ (if 0 ≤ x ∧ x ≤ M.1 1 3 - 1 then (1 : Int32) else 0) = 0 → _) ∧ ((if 0 ≤ x ∧ x ≤ M.1 1 3 - 1 then (1 : Int32) else 0) = 0 → _)
  rw [hn]
  by_cases c : zv x n
  · rw [if_pos ((zv_in hb).mpr c)]
    exact z1A (t_X12_noWoman_19 ⟨Or.inl rfl, h0 c⟩)
  · rw [if_neg (fun z => c ((zv_in hb).mp z))]
    exact z0B (t_X12_noWoman_19 ⟨Or.inr rfl, h1 c⟩)
end RB
/-! ===== the class's needs ===== -/
section CB
variable {E : zEv} {D : Nat} {post : zM → Prop} {px : String → zM → Prop} {M : zM}
theorem s_X11_needWitness {x : Int32} {n : Nat} (hn : M.1 62 6 = nI n) (h1 : zv x n → post M) (h2 : ¬ zv x n → px "java/lang/IndexOutOfBoundsException" M) : zCv E jX11_needWitness D 1 [.ref 19, .int x] M post px := by
  refine e_X11_needWitness ⟨fun c => t_X11_needWitness_18 (h2 (fun z => z.1 c)), fun c => ?_⟩
  rw [hn]
  exact ⟨fun c2 => h1 ⟨c, c2⟩, fun c2 => t_X11_needWitness_18 (h2 (fun z => c2 z.2))⟩
theorem s_X11_needThing {x : Int32} {n : Nat} (hn : M.1 61 6 = nI n) (h1 : zv x n → post M) (h2 : ¬ zv x n → px "java/lang/IndexOutOfBoundsException" M) : zCv E jX11_needThing D 1 [.ref 19, .int x] M post px := by
  refine e_X11_needThing ⟨fun c => t_X11_needThing_15 (h2 (fun z => z.1 c)), fun c => ?_⟩
  rw [hn]
  exact ⟨fun c2 => h1 ⟨c, c2⟩, fun c2 => t_X11_needThing_15 (h2 (fun z => c2 z.2))⟩
theorem s_X11_needQuestion {x : Int32} {n : Nat} (hn : M.1 61 7 = nI n) (h1 : zv x n → post M) (h2 : ¬ zv x n → px "java/lang/IndexOutOfBoundsException" M) : zCv E jX11_needQuestion D 1 [.ref 19, .int x] M post px := by
  refine e_X11_needQuestion ⟨fun c => t_X11_needQuestion_15 (h2 (fun z => z.1 c)), fun c => ?_⟩
  rw [hn]
  exact ⟨fun c2 => h1 ⟨c, c2⟩, fun c2 => t_X11_needQuestion_15 (h2 (fun z => c2 z.2))⟩
theorem s_X11_needWoman {x : Int32} {n : Nat} (hn : M.1 61 8 = nI n) (h1 : zv x n → post M) (h2 : ¬ zv x n → px "java/lang/IndexOutOfBoundsException" M) : zCv E jX11_needWoman D 1 [.ref 19, .int x] M post px := by
  refine e_X11_needWoman ⟨fun c => t_X11_needWoman_15 (h2 (fun z => z.1 c)), fun c => ?_⟩
  rw [hn]
  exact ⟨fun c2 => h1 ⟨c, c2⟩, fun c2 => t_X11_needWoman_15 (h2 (fun z => c2 z.2))⟩
theorem s_X11_needPlace {x : Int32} {n : Nat} (hn : M.1 62 6 = nI n) (h1 : zv x n → post M) (h2 : ¬ zv x n → px "java/lang/IndexOutOfBoundsException" M) : zCv E jX11_needPlace D 1 [.ref 19, .int x] M post px := by
  refine e_X11_needPlace ⟨fun c => t_X11_needPlace_18 (h2 (fun z => z.1 c)), fun c => ?_⟩
  rw [hn]
  exact ⟨fun c2 => h1 ⟨c, c2⟩, fun c2 => t_X11_needPlace_18 (h2 (fun z => c2 z.2))⟩
end CB
/-! ===== an answer, held against the other ===== -/
theorem cmp_self (x : Int64) : lg_cmp x x = 0 := by
  unfold lg_cmp
  rw [if_neg (by rw [gt_iff_lt, fa_lt64]; omega), if_pos rfl]
theorem op_glue {r th b : Int32} {v : Int64} {A B : Prop} (h1 : th = r) (h2 : r = 0 → v = b.toInt64) (hA : A) : ((th = r → ((¬ r = 0 → A) ∧ (r = 0 → ((lg_cmp v b.toInt64 = 0 → A) ∧ (¬ lg_cmp v b.toInt64 = 0 → B))))) ∧ (¬ th = r → B)) := by
  refine ⟨fun _ => ⟨fun _ => hA, fun c => ⟨fun _ => hA, fun z => absurd ?_ z⟩⟩, fun z => absurd h1 z⟩
  rw [h2 c]; exact cmp_self _
section OPS
variable {E : zEv} {D : Nat} {post : Int32 → zM → Prop} {px : String → zM → Prop} {M : zM}
theorem oc_asks {x : Int32} (h : Rel M) (h0 : ∀ q, q < qN (M.1 1) → x = nI q → ∀ M1, zpi M1 = zpi M → M1.2 18 0 = (M.1 1 (12 + q)).toInt64 → post 0 M1) (h1 : ¬ zv x (qN (M.1 1)) → post 1 M) : zCWi E jL_asks (D + 2) 1 [.ref 19, .int x, .ref 18] M post := by
  have hn := h.ok.q
  refine e_L_asks (e_X11_asks (s_X11_needQuestion (n := qN (M.1 1)) ((h.now.1.2.2.1).trans hn.1) (fun c => ?_) (fun c => ⟨rfl, h1 c⟩)))
  obtain ⟨q, hq, rfl⟩ := c.get (by omega)
  refine ⟨pk_in q _ (by omega), fun M4 e => ?_⟩
  rw [nI_clamp (by omega), show M.1 73 q = M.1 1 (12 + q) from h.now.2.2.2.1 q hq] at e
  exact h0 q hq rfl M4 (by rw [e]; exact zpi_upL rfl) (by rw [e]; exact zupL_s)
theorem or_asks {x : Int32} (h : okF (M.1 1)) (h0 : ∀ q, q < qN (M.1 1) → x = nI q → post (M.1 1 (12 + q)) (zup M 0 0 0)) (h1 : ¬ zv x (qN (M.1 1)) → post 0 (zup (zup M 0 0 0) 0 0 1)) : zCi E jX12_asks (D + 2) 0 [.ref 0, .int x] M post px := by
  have hn := h.q
  refine e_X12_asks (fun M1 e1 => s_X12_noQuestion (n := qN (M.1 1)) (by rw [e1]; exact hn.1) (by omega) (fun c => s_throws0 (z0A ?_)) (fun c => s_throws1 (z1B (t_X12_asks_31 ?_))))
  · obtain ⟨q, hq, rfl⟩ := c.get (by omega)
    have e2 : (12 : Int32) + nI q = nI (12 + q) := nI_add 12 q
    rw [e2, nI_clamp (by omega), e1]
    exact ⟨pk_in (12 + q) _ (by omega), t_X12_asks_31 (h0 q hq rfl)⟩
  · rw [e1]; exact h1 c
theorem oc_sharp {x : Int32} (h : Rel M) (h0 : ∀ q, q < kN (M.1 1) → x = nI q → ∀ M1, zpi M1 = zpi M → M1.2 18 0 = (M.1 1 (20 + q)).toInt64 → post 0 M1) (h1 : ¬ zv x (kN (M.1 1)) → post 1 M) : zCWi E jL_sharp (D + 2) 1 [.ref 19, .int x, .ref 18] M post := by
  have hn := h.ok.k
  refine e_L_sharp (e_X11_sharp (s_X11_needWoman (n := kN (M.1 1)) ((h.now.1.2.2.2.1).trans hn.1) (fun c => ?_) (fun c => ⟨rfl, h1 c⟩)))
  obtain ⟨q, hq, rfl⟩ := c.get (by omega)
  refine ⟨pk_in q _ (by omega), fun M4 e => ?_⟩
  rw [nI_clamp (by omega), show M.1 74 q = M.1 1 (20 + q) from h.now.2.2.2.2.1 q hq] at e
  exact h0 q hq rfl M4 (by rw [e]; exact zpi_upL rfl) (by rw [e]; exact zupL_s)
theorem or_sharp {x : Int32} (h : okF (M.1 1)) (h0 : ∀ q, q < kN (M.1 1) → x = nI q → post (M.1 1 (20 + q)) (zup M 0 0 0)) (h1 : ¬ zv x (kN (M.1 1)) → post 0 (zup (zup M 0 0 0) 0 0 1)) : zCi E jX12_sharp (D + 2) 0 [.ref 0, .int x] M post px := by
  have hn := h.k
  refine e_X12_sharp (fun M1 e1 => s_X12_noWoman (n := kN (M.1 1)) (by rw [e1]; exact hn.1) (by omega) (fun c => s_throws0 (z0A ?_)) (fun c => s_throws1 (z1B (t_X12_sharp_31 ?_))))
  · obtain ⟨q, hq, rfl⟩ := c.get (by omega)
    have e2 : (20 : Int32) + nI q = nI (20 + q) := nI_add 20 q
    rw [e2, nI_clamp (by omega), e1]
    exact ⟨pk_in (20 + q) _ (by omega), t_X12_sharp_31 (h0 q hq rfl)⟩
  · rw [e1]; exact h1 c
theorem oc_stands {x : Int32} (h : Rel M) (h0 : ∀ q, q < wN (M.1 1) → x = nI q → ∀ M1, zpi M1 = zpi M → M1.2 18 0 = (M.1 1 (24 + q)).toInt64 → post 0 M1) (h1 : ¬ zv x (wN (M.1 1)) → post 1 M) : zCWi E jL_stands (D + 2) 1 [.ref 19, .int x, .ref 18] M post := by
  have hn := h.ok.w
  refine e_L_stands (e_X11_stands (s_X11_needPlace (n := wN (M.1 1)) ((h.now.1.1).trans hn.1) (fun c => ?_) (fun c => ⟨rfl, h1 c⟩)))
  obtain ⟨q, hq, rfl⟩ := c.get (by omega)
  refine ⟨pk_in q _ (by omega), fun M4 e => ?_⟩
  rw [nI_clamp (by omega), show M.1 68 q = M.1 1 (24 + q) from (h.now.2.1 q hq).2.2.2.2.2] at e
  exact h0 q hq rfl M4 (by rw [e]; exact zpi_upL rfl) (by rw [e]; exact zupL_s)
theorem or_stands {x : Int32} (h : okF (M.1 1)) (h0 : ∀ q, q < wN (M.1 1) → x = nI q → post (M.1 1 (24 + q)) (zup M 0 0 0)) (h1 : ¬ zv x (wN (M.1 1)) → post 0 (zup (zup M 0 0 0) 0 0 1)) : zCi E jX12_stands (D + 2) 0 [.ref 0, .int x] M post px := by
  have hn := h.w
  refine e_X12_stands (fun M1 e1 => s_X12_noWitness (n := wN (M.1 1)) (by rw [e1]; exact hn.1) (by omega) (fun c => s_throws0 (z0A ?_)) (fun c => s_throws1 (z1B (t_X12_stands_31 ?_))))
  · obtain ⟨q, hq, rfl⟩ := c.get (by omega)
    have e2 : (24 : Int32) + nI q = nI (24 + q) := nI_add 24 q
    rw [e2, nI_clamp (by omega), e1]
    exact ⟨pk_in (24 + q) _ (by omega), t_X12_stands_31 (h0 q hq rfl)⟩
  · rw [e1]; exact h1 c
end OPS
