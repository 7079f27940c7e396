/-! ===== worlds: what would rise in each; parts ===== -/
noncomputable def rzF (f : zRow) (q s v : Nat) : Int32 := riseF f (f (12 + q) &&& nI s) v
def alk (f : zRow) (q a b : Nat) : Prop := ∀ v, v < wN f → rzF f q a v = rzF f q b v
section PT
variable {f : zRow} {q : Nat}
theorem alk.refl {a : Nat} : alk f q a a := fun _ _ => rfl
theorem alk.symm {a b : Nat} (h : alk f q a b) : alk f q b a := fun v hv => (h v hv).symm
theorem alk.trans {a b c : Nat} (h : alk f q a b) (h2 : alk f q b c) : alk f q a c := fun v hv => (h v hv).trans (h2 v hv)
noncomputable def ptF (f : zRow) (q s : Nat) : Nat := Classical.choose (pk_least (fun k => alk f q k s) ⟨s, alk.refl⟩)
theorem pt_alk {s : Nat} : alk f q (ptF f q s) s := (Classical.choose_spec (pk_least (fun k => alk f q k s) ⟨s, alk.refl⟩)).1
theorem pt_min {s j : Nat} (h : j < ptF f q s) : ¬ alk f q j s := (Classical.choose_spec (pk_least (fun k => alk f q k s) ⟨s, alk.refl⟩)).2 j h
theorem pt_le {s : Nat} : ptF f q s ≤ s := Nat.not_lt.mp (fun h => pt_min h alk.refl)
theorem pt_iff {a b : Nat} : ptF f q a = ptF f q b ↔ alk f q a b := by
  constructor
  · intro h
    have h1 := pt_alk (f := f) (q := q) (s := a)
    rw [h] at h1
    exact h1.symm.trans pt_alk
  · intro h
    have x1 : ¬ ptF f q a < ptF f q b := fun z => pt_min z (pt_alk.trans h)
    have x2 : ¬ ptF f q b < ptF f q a := fun z => pt_min z (pt_alk.trans h.symm)
    omega
theorem pt_self {s : Nat} : ptF f q s = s ↔ ∀ k, k < s → ¬ alk f q k s := by
  constructor
  · intro h k hk
    rw [← h] at hk
    rw [← h]
    exact fun z => pt_min hk (by rw [h] at z; exact z)
  · intro h
    have := pt_le (f := f) (q := q) (s := s)
    refine Decidable.byContradiction (fun z => h _ (by omega) pt_alk)
theorem pt_pt {s : Nat} : ptF f q (ptF f q s) = ptF f q s := pt_iff.mpr pt_alk
end PT
section WEIGH
variable {E : zEv} {D : Nat} {px : String → zM → Prop} {M : zM} {f : zRow}
theorem two_t (hk : okF f) : 2 ^ tN f ≤ 64 := by
  have := Nat.pow_le_pow_right (n := 2) (by decide) hk.t.2
  simpa using this
theorem s_worldCount {post : Int32 → zM → Prop} {c : Nat} (hc : zIsC c) (hr : cR M c f) (hk : okF f) (hp : post (nI (2 ^ tN f)) M) : zCi E jX3_worldCount D 0 [.ref c] M post px := by
  refine e_X3_worldCount hc ?_
  rw [show M.1 c 6 = nI (tN f) from hr.1.2.1.trans hk.t.1, all_cnt (by have := hk.t.2; omega)]
  exact hp
/-- nothing but what worlds are weighed with has changed -/
def wl (M' M : zM) : Prop := (∀ o, o ≠ 41 → o ≠ 42 → (o < 44 ∨ 47 < o) → o ≠ 49 → o ≠ 50 → o ≠ 51 → o ≠ 52 → M'.1 o = M.1 o) ∧ M'.2 = M.2
theorem wl.refl {M : zM} : wl M M := ⟨fun _ _ _ _ _ _ _ _ => rfl, rfl⟩
theorem wl.trans {M1 M2 M3 : zM} (h : wl M1 M2) (h2 : wl M2 M3) : wl M1 M3 := ⟨fun o a b c d e g i => (h.1 o a b c d e g i).trans (h2.1 o a b c d e g i), h.2.trans h2.2⟩
theorem bl.wl {M' M : zM} (h : bl M' M) : wl M' M := ⟨fun o a b c _ _ _ _ => h.1 o a b c, h.2⟩
theorem wl.up {M : zM} {o j : Nat} {v : Int32} (h : o = 49 ∨ o = 50 ∨ o = 51 ∨ o = 52) : wl (zup M o j v) M := ⟨fun _ _ _ _ _ _ _ _ => zup_o (by omega), rfl⟩
theorem wl.row {M : zM} {o : Nat} {g : Nat → Int32} (h : o = 49 ∨ o = 50 ∨ o = 51 ∨ o = 52) : wl (zrow M o g) M := ⟨fun _ _ _ _ _ _ _ _ => zrow_o (by omega), rfl⟩
theorem wl.pi {M' M : zM} (h : wl M' M) : zpi M' = zpi M := zpi_of fun o j hi => ⟨by
  rw [h.1 o (by rintro rfl; cases hi) (by rintro rfl; cases hi) (by
    refine Decidable.byContradiction (fun z => ?_)
    have : o = 44 ∨ o = 45 ∨ o = 46 ∨ o = 47 := by omega
    rcases this with rfl | rfl | rfl | rfl <;> cases hi) (by rintro rfl; cases hi) (by rintro rfl; cases hi) (by rintro rfl; cases hi) (by rintro rfl; cases hi)], by rw [h.2]⟩
theorem cR_wl {M M' : zM} {c : Nat} (hc : zIsC c) (h : wl M' M) (hk : okF f) (hr : cR M c f) : cR M' c f := by
  have := hc.lo
  exact cR_same (fun o j h1 h2 => ⟨by rw [h.1 o (by omega) (by omega) (by omega) (by omega) (by omega) (by omega) (by omega)], by rw [h.2]⟩) hk hr
theorem lawR_wl {M M' : zM} (h : wl M' M) (hr : lawR M 36 f) : lawR M' 36 f :=
  lawR_same rfl (fun _ _ => rfl) (by rw [h.1 36 (by decide) (by decide) (by omega) (by decide) (by decide) (by decide) (by decide)]) (fun i j _ _ _ => by rw [h.1 _ (by omega) (by omega) (by omega) (by omega) (by omega) (by omega) (by omega)]) (fun j _ => by rw [h.1 _ (by omega) (by omega) (by omega) (by omega) (by omega) (by omega) (by omega)]) hr
theorem s_X10_isAlike {post : Int32 → zM → Prop} {q a b : Nat} (hk : okF f) (ha : a < 64) (hb : b < 64) (h1 : ∀ v, v < wN f → M.1 49 (5 * a + v) = rzF f q a v) (h2 : ∀ v, v < wN f → M.1 49 (5 * b + v) = rzF f q b v) (y : alk f q a b → post 1 M) (n : ¬ alk f q a b → post 0 M) : zCi E jX10_isAlike D 0 [.ref 48, .int (nI (wN f)), .int (nI a), .int (nI b)] M post px := by
  have w5 := hk.w.2
  have e5 : ∀ a v : Nat, nI a * 5 + nI v = nI (5 * a + v) := fun a v => by rw [show (5 : Int32) = nI 5 from rfl, pk_mul, nI_add, Nat.mul_comm]
  refine e_X10_isAlike (zup_loop (fun i => (∀ v, v < i → rzF f q a v = rzF f q b v) → w_X10_isAlike_3 E D post px (nI (wN f)) (nI a) (nI b) (nI i) M) (wN f) (fun i hi ih hal => ?_) (fun hal => ?_) 0 (by omega) (fun v hv => absurd hv (by omega)))
  · refine t_X10_isAlike_3 (pk_le (wN f) i (fun z => absurd z (by omega)) (fun _ => ?_))
    rw [e5, e5, nI_clamp (n := 5 * a + i) (by omega), nI_clamp (n := 5 * b + i) (by omega), h1 i hi, h2 i hi]
    refine ⟨pk_in _ _ (show 5 * a + i < 320 by omega), pk_in _ _ (show 5 * b + i < 320 by omega), fun z => ?_, fun z => n (fun q => z (q i hi))⟩
    rw [nI_1]
    refine ih (fun v hv => ?_)
    by_cases c : v = i
    · rw [c]; exact z
    · exact hal v (by omega)
  · exact t_X10_isAlike_3 (pk_le (wN f) (wN f) (fun _ => y hal) (fun z => absurd z (by omega)))
theorem s_X10_firstAlike {post : Int32 → zM → Prop} {q s : Nat} (hk : okF f) (hq : q < 8) (hs : s < 64) (h49 : ∀ a v, a ≤ s → v < wN f → M.1 49 (5 * a + v) = rzF f q a v) (h50 : ∀ a, a < s → M.1 50 (64 * q + a) = nI (ptF f q a)) (hp : post (nI (ptF f q s)) M) : zCi E jX10_firstAlike (D + 1) 0 [.ref 48, .int (nI (wN f)), .int (nI (64 * q)), .int (nI s)] M post px := by
  refine e_X10_firstAlike (zup_loop (fun i => (∀ k, k < i → ¬ alk f q k s) → w_X10_firstAlike_3 E D post px (nI (wN f)) (nI (64 * q)) (nI s) (nI i) M) s (fun i hi ih hno => ?_) (fun hno => ?_) 0 (by omega) (fun k hk => absurd hk (by omega)))
  · have nx : ¬ alk f q i s → w_X10_firstAlike_37 E D post px (nI (wN f)) (nI (64 * q)) (nI s) (nI i) M := fun hn => t_X10_firstAlike_37 (by
      rw [nI_1]
      refine ih (fun k hk => ?_)
      by_cases c : k = i
      · rw [c]; exact hn
      · exact hno k (by omega))
    have pl := pt_le (f := f) (q := q) (s := i)
    refine t_X10_firstAlike_3 (pk_le s i (fun z => absurd z (by omega)) (fun _ => ?_))
    rw [nI_add, nI_clamp (by omega), h50 i hi]
    refine ⟨pk_in _ _ (show 64 * q + i < 512 by omega), ?_⟩
    refine pk_eq (ptF f q i) i (fun z => ?_) (fun z => nx (fun y => z (pt_self.mpr (fun k hk hal => hno k hk (hal.trans y))))) |> fun y => ⟨y.2, y.1⟩
    refine s_X10_isAlike hk (by omega) hs (fun v hv => h49 i v (by omega) hv) (fun v hv => h49 s v (Nat.le_refl _) hv) (fun y => z1B ?_) (fun y => z0A (nx y))
    have : ptF f q s = i := by rw [← z]; exact pt_iff.mpr y.symm
    rw [this] at hp
    exact hp
  · refine t_X10_firstAlike_3 (pk_le s s (fun _ => ?_) (fun z => absurd z (by omega)))
    rw [pt_self.mpr hno] at hp
    exact hp
theorem and_and_self (a b : Int32) : a &&& (b &&& a) = a &&& b := by
  apply bt_ext
  intro i hi
  rw [bt_and, bt_and, bt_and]
  cases bt a i <;> cases bt b i <;> rfl
theorem s_X10_weigh {post : zM → Prop} {q : Nat} (hr : cR M 61 f) (hk : okF f) (hL : lawR M 36 f) (hq : q < qN f) (hp : ∀ M', (∀ s v, s < 2 ^ tN f → v < wN f → M'.1 49 (5 * s + v) = rzF f q s v) → (∀ s, s < 2 ^ tN f → M'.1 50 (64 * q + s) = nI (ptF f q s)) → (∀ j, (j < 64 * q ∨ 64 * q + 64 ≤ j) → M'.1 50 j = M.1 50 j) → M'.1 51 = M.1 51 → M'.1 52 = M.1 52 → wl M' M → post M') : zCv E jX10_weigh (D + 4) 0 [.ref 48, .ref 43, .ref 61, .int (nI q)] M post px := by
  have w5 := hk.w
  have q8 := hk.q.2
  have t64 := two_t hk
  refine e_X10_weigh ?_
  rw [show nI q * 64 = nI (64 * q) by rw [show (64 : Int32) = nI 64 from rfl, pk_mul, Nat.mul_comm]]
  refine zup_loop (fun i => ∀ M', (∀ s v, s < i → v < wN f → M'.1 49 (5 * s + v) = rzF f q s v) → (∀ s, s < i → M'.1 50 (64 * q + s) = nI (ptF f q s)) → (∀ j, (j < 64 * q ∨ 64 * q + 64 ≤ j) → M'.1 50 j = M.1 50 j) → M'.1 51 = M.1 51 → M'.1 52 = M.1 52 → wl M' M → w_X10_weigh_9 E (D + 3) post px (nI q) (nI (64 * q)) (nI i) M') (2 ^ tN f) (fun i hi ih M' a1 a2 a3 a4 a5 a6 => ?_) (fun M' a1 a2 a3 a4 a5 a6 => ?_) 0 (Nat.zero_le _) M (fun s v hs => absurd hs (by omega)) (fun s hs => absurd hs (by omega)) (fun _ _ => rfl) rfl rfl wl.refl
  · have cr := cR_wl zc61 a6 hk hr
    have e73 : M'.1 73 q = f (12 + q) := cr.2.2.2.1 q hq
    refine t_X10_weigh_9 (s_worldCount zc61 cr hk (pk_le (2 ^ tN f) i (fun z => absurd z (by omega)) (fun _ => ⟨pk_in q _ (by omega), ?_⟩)))
    rw [nI_clamp (n := q) (by omega), e73, show nI i * 5 = nI (5 * i) by rw [show (5 : Int32) = nI 5 from rfl, pk_mul, Nat.mul_comm]]
    -- behind a world
    have nx : ∀ M2, (∀ v, v < wN f → M2.1 49 (5 * i + v) = rzF f q i v) → (∀ j, (j < 5 * i ∨ 5 * i + 5 ≤ j) → M2.1 49 j = M'.1 49 j) → M2.1 50 (64 * q + i) = nI (ptF f q i) → (∀ j, j ≠ 64 * q + i → M2.1 50 j = M'.1 50 j) → M2.1 51 = M'.1 51 → M2.1 52 = M'.1 52 → wl M2 M' → w_X10_weigh_129 E (D + 3) post px (nI q) (nI (64 * q)) (nI i) M2 := fun M2 b1 b2 b3 b4 b5 b6 b7 => t_X10_weigh_129 (by
      rw [nI_1]
      refine ih M2 (fun s v hs hv => ?_) (fun s hs => ?_) (fun j hj => by rw [b4 j (by omega)]; exact a3 j hj) (b5.trans a4) (b6.trans a5) (b7.trans a6)
      · by_cases c : s = i
        · rw [c]; exact b1 v hv
        · rw [b2 _ (by omega)]; exact a1 s v (by omega) hv
      · by_cases c : s = i
        · rw [c]; exact b3
        · rw [b4 _ (by omega)]; exact a2 s (by omega))
    refine ⟨fun z => s_X1_raise zc61 cr hk (lawR_wl a6 hL) hq (fun M12 h12 b12 => ⟨nI_pos (by omega), ?_⟩), fun z => ?_⟩
    · rw [nI_clamp (n := 5 * i) (by omega), n0, n5]
      refine ⟨by omega, fun M18 e18 => ?_⟩
      have r18 : ∀ v, v < wN f → M18.1 49 (5 * i + v) = rzF f q i v := fun v hv => by
        rw [e18, zrow_row, pk_cpy_in (by omega) (by omega), show 0 + (5 * i + v - 5 * i) = v by omega, (h12 v hv).2.2]
        rfl
      have o18 : ∀ j, (j < 5 * i ∨ 5 * i + 5 ≤ j) → M18.1 49 j = M'.1 49 j := fun j hj => by
        rw [e18, zrow_row, pk_cpy_out (by omega), b12.1 49 (by decide) (by decide) (by omega)]
      have k18 : ∀ o, o ≠ 49 → M18.1 o = M12.1 o := fun o ho => by rw [e18, zrow_o ho]
      have e62 : M18.1 62 6 = nI (wN f) := by rw [k18 62 (by decide), b12.1 62 (by decide) (by decide) (by omega)]; exact cr.1.1.trans w5.1
      rw [e62]
      have k50 : M18.1 50 = M'.1 50 := by rw [k18 50 (by decide), b12.1 50 (by decide) (by decide) (by omega)]
      have wl18 : wl M18 M' := (show wl M18 M12 by rw [e18]; exact wl.row (Or.inl rfl)).trans b12.wl
      refine s_X10_firstAlike hk (by omega) (by omega) (fun a v ha hv => ?_) (fun a ha => by rw [k50]; exact a2 a ha) ?_
      · by_cases c : a = i
        · rw [c]; exact r18 v hv
        · rw [o18 _ (by omega)]; exact a1 a v (by omega) hv
      · rw [nI_add, nI_clamp (n := 64 * q + i) (by omega)]
        refine ⟨pk_in _ _ (show 64 * q + i < 512 by omega), fun M25 e25 => nx M25 (fun v hv => by rw [e25, zup_o (by decide)]; exact r18 v hv) (fun j hj => by rw [e25, zup_o (by decide)]; exact o18 j hj) (by rw [e25, zup_s]) (fun j hj => by rw [e25, zup_n (Or.inr hj), k50]) ?_ ?_ (by rw [e25]; exact (wl.up (Or.inr (Or.inl rfl))).trans wl18)⟩
        · rw [e25, zup_o (by decide), k18 51 (by decide), b12.1 51 (by decide) (by decide) (by omega)]
        · rw [e25, zup_o (by decide), k18 52 (by decide), b12.1 52 (by decide) (by decide) (by omega)]
    · obtain ⟨m, hm, em⟩ : isN (f (12 + q)) (2 ^ tN f - 1) := hk.2.2.2.1 q hq
      have esd : nI i &&& f (12 + q) = nI (i &&& m) := by rw [em, fa_and]
      have hle : i &&& m ≤ i := Nat.and_le_left
      have hne : i &&& m ≠ i := fun y => z (by rw [esd, y])
      have rz_eq : ∀ v, rzF f q (i &&& m) v = rzF f q i v := fun v => by
        unfold rzF
        rw [← esd, and_and_self]
      have pt_eq : ptF f q (i &&& m) = ptF f q i := pt_iff.mpr (fun v _ => rz_eq v)
      rw [esd, show nI (i &&& m) * 5 = nI (5 * (i &&& m)) by rw [show (5 : Int32) = nI 5 from rfl, pk_mul, Nat.mul_comm], nI_clamp (n := 5 * (i &&& m)) (by omega), nI_clamp (n := 5 * i) (by omega), n5]
      refine ⟨nI_pos (by omega), nI_pos (by omega), by omega, by omega, fun M35 e35 => ?_⟩
      rw [nI_add, nI_add, nI_clamp (n := 64 * q + (i &&& m)) (by omega), nI_clamp (n := 64 * q + i) (by omega)]
      refine ⟨pk_in _ _ (show 64 * q + (i &&& m) < 512 by omega), pk_in _ _ (show 64 * q + i < 512 by omega), fun M41 e41 => ?_⟩
      have k35 : ∀ o, o ≠ 49 → M35.1 o = M'.1 o := fun o ho => by rw [e35, zrow_o ho]
      rw [k35 50 (by decide), a2 _ (by omega), pt_eq] at e41
      refine nx M41 (fun v hv => ?_) (fun j hj => ?_) (by rw [e41, zup_s]) (fun j hj => by rw [e41, zup_n (Or.inr hj), k35 50 (by decide)]) (by rw [e41, zup_o (by decide), k35 51 (by decide)]) (by rw [e41, zup_o (by decide), k35 52 (by decide)]) (by rw [e41]; exact (wl.up (Or.inr (Or.inl rfl))).trans (by rw [e35]; exact wl.row (Or.inl rfl)))
      · rw [e41, zup_o (by decide), e35, zrow_row, pk_cpy_in (by omega) (by omega), show 5 * (i &&& m) + (5 * i + v - 5 * i) = 5 * (i &&& m) + v by omega, a1 _ v (by omega) hv]
        exact rz_eq v
      · rw [e41, zup_o (by decide), e35, zrow_row, pk_cpy_out (by omega)]
  · exact t_X10_weigh_9 (s_worldCount zc61 (cR_wl zc61 a6 hk hr) hk (pk_le (2 ^ tN f) (2 ^ tN f) (fun _ => hp M' a1 a2 a3 a4 a5 a6) (fun z => absurd z (by omega))))
/-! the reference -/
abbrev rzI (q s v : Nat) : Nat := 5 * (64 * q + s) + v
theorem s_X12_risenAt {post : Int32 → zM → Prop} {q s v : Nat} (hq : q < 8) (hp : post (nI (rzI q s v)) M) : zCi E jX12_risenAt D 0 [.int (nI q), .int (nI s), .int (nI v)] M post px := by
  refine e_X12_risenAt ?_
  have e : nI q <<< ((6 : Int32) &&& 31) = nI (64 * q) := by
    have := (by decide +kernel : ∀ j : Fin 8, nI j.val <<< ((6 : Int32) &&& 31) = nI (64 * j.val)) ⟨q, hq⟩
    exact this
  rw [e, nI_add, show (5 : Int32) = nI 5 from rfl, pk_mul, nI_add]
  exact hp
/-- nothing but values, rises, worlds' rises has changed -/
def rr (M' M : zM) : Prop := (∀ o, o ≠ 8 → o ≠ 9 → o ≠ 11 → o ≠ 12 → o ≠ 13 → M'.1 o = M.1 o) ∧ M'.2 = M.2
theorem rr.refl {M : zM} : rr M M := ⟨fun _ _ _ _ _ _ => rfl, rfl⟩
theorem rr.trans {M1 M2 M3 : zM} (h : rr M1 M2) (h2 : rr M2 M3) : rr M1 M3 := ⟨fun o a b c d e => (h.1 o a b c d e).trans (h2.1 o a b c d e), h.2.trans h2.2⟩
theorem rk.rr {M' M : zM} (h : rk M' M) : rr M' M := ⟨fun o a b _ _ _ => h.1 o a b, h.2⟩
theorem rr.up {M : zM} {o j : Nat} {v : Int32} (h : o = 11 ∨ o = 12 ∨ o = 13) : rr (zup M o j v) M := ⟨fun _ _ _ _ _ _ => zup_o (by omega), rfl⟩
theorem rr.w {M' M : zM} (h : rr M' M) : M'.1 1 = M.1 1 := h.1 1 (by decide) (by decide) (by decide) (by decide) (by decide)
theorem rr.pi {M' M : zM} (h : rr M' M) : zpi M' = zpi M := zpi_of fun o j hi => ⟨by
  rw [h.1 o (by rintro rfl; cases hi) (by rintro rfl; cases hi) (by rintro rfl; cases hi) (by rintro rfl; cases hi) (by rintro rfl; cases hi)], by rw [h.2]⟩
theorem rr.ro {M2 M : zM} (h : rr M2 (zup M 0 0 0)) : ro M2 M := ⟨by rw [h.1 0 (by decide) (by decide) (by decide) (by decide) (by decide)]; exact zup_s, h.2, h.pi.trans (zpi_up rfl)⟩
def rzW (M : zM) (f : zRow) : Prop := ∀ q s v, q < qN f → s < 2 ^ tN f → v < wN f → M.1 11 (rzI q s v) = rzF f q s v
theorem s_X12_allThings2 {post : Int32 → zM → Prop} (hf : M.1 1 = f) (hk : okF f) (hp : post (nI (2 ^ tN f - 1)) M) : zCi E jX12_allThings (D + 1) 0 [.ref 0] M post px := by
  refine s_X12_allThings ?_
  rw [show M.1 1 1 = nI (tN f) by rw [hf]; exact hk.t.1, all_nI hk.t.2]
  exact hp
theorem s_X12_laysWorlds {post : zM → Prop} (hf : M.1 1 = f) (hk : okF f) (hL : lawK f) (hp : ∀ M', rzW M' f → rr M' M → post M') : zCv E jX12_laysWorlds (D + 8) 0 [.ref 0] M post px := by
  have w5 := hk.w
  have q8 := hk.q
  have t64 := two_t hk
  have t0 : 0 < 2 ^ tN f := Nat.two_pow_pos _
  refine e_X12_laysWorlds (zup_loop (fun i => ∀ M', (∀ q s v, q < i → s < 2 ^ tN f → v < wN f → M'.1 11 (rzI q s v) = rzF f q s v) → rr M' M → w_X12_laysWorlds_2 E (D + 7) post px (nI i) M') (qN f) (fun i hi ih M' a1 a2 => ?_) (fun M' a1 a2 => ?_) 0 (by omega) M (fun q s v hq => absurd hq (by omega)) rr.refl)
  · have hm : M'.1 1 = f := by rw [a2.w, hf]
    refine t_X12_laysWorlds_2 (e_X12_questions (pk_le (qN f) i (fun z => absurd z (by omega)) (fun _ => ?_) (by rw [hm]; exact q8.1)))
    refine zup_loop (fun s => ∀ M2, (∀ q s' v, (q < i ∨ (q = i ∧ s' < s)) → s' < 2 ^ tN f → v < wN f → M2.1 11 (rzI q s' v) = rzF f q s' v) → rr M2 M → w_X12_laysWorlds_12 E (D + 7) post px (nI i) (nI s) M2) (2 ^ tN f) (fun s hs ih2 M2 b1 b2 => ?_) (fun M2 b1 b2 => ?_) 0 (Nat.zero_le _) M' (fun q s' v hq => a1 q s' v (by omega)) a2
    · have hm2 : M2.1 1 = f := by rw [b2.w, hf]
      refine t_X12_laysWorlds_12 (s_X12_allThings2 hm2 hk (pk_lt (2 ^ tN f - 1) s (fun z => absurd z (by omega)) (fun _ => ?_)))
      rw [show (12 : Int32) + nI i = nI (12 + i) from nI_add 12 i, nI_clamp (by omega), hm2]
      refine ⟨pk_in _ _ (show 12 + i < 2070 by omega), s_X12_lays hm2 hk hL (fun M9 h9 r9 => ?_)⟩
      refine zup_loop (fun v => ∀ M3, M3.1 9 = M9.1 9 → (∀ q s' v', (q < i ∨ (q = i ∧ (s' < s ∨ (s' = s ∧ v' < v)))) → s' < 2 ^ tN f → v' < wN f → M3.1 11 (rzI q s' v') = rzF f q s' v') → rr M3 M → w_X12_laysWorlds_37 E (D + 7) post px (nI i) (nI s) (nI v) M3) 5 (fun v hv ih3 M3 c0 c1 c2 => ?_) (fun M3 c0 c1 c2 => ?_) 0 (by omega) M9 rfl (fun q s' v' hq h1 h2 => by rw [r9.1 11 (by decide) (by decide)]; exact b1 q s' v' (by omega) h1 h2) (r9.rr.trans b2)
      · have hm3 : M3.1 1 = f := by rw [c2.w, hf]
        have h70 : ∀ x, (v < wN f → x = rzF f i s v) → w_X12_laysWorlds_70 E (D + 7) post px (nI i) (nI s) (nI v) x (nI (rzI i s v)) M3 := fun x hx => t_X12_laysWorlds_70 ⟨pk_in _ _ (show rzI i s v < 2560 by unfold rzI; omega), fun M4 e4 => by
          rw [nI_clamp (by unfold rzI; omega)] at e4
          rw [nI_1]
          refine ih3 M4 (by rw [e4, zup_o (by decide)]; exact c0) (fun q s' v' hq h1 h2 => ?_) (by rw [e4]; exact (rr.up (Or.inl rfl)).trans c2)
          by_cases c : q = i ∧ s' = s ∧ v' = v
          · obtain ⟨rfl, rfl, rfl⟩ := c
            rw [e4, zup_s]; exact hx h2
          · rw [e4, zup_n (Or.inr (by unfold rzI; omega))]
            exact c1 q s' v' (by omega) h1 h2⟩
        refine t_X12_laysWorlds_37 (pk_le 5 v (fun z => absurd z (by omega)) (fun _ => s_X12_risenAt (by omega) (e_X12_witnesses (pk_le (wN f) v (fun z => h70 0 (fun q => absurd q (by omega))) (fun z => ⟨pk_in v _ (by omega), h70 _ (fun _ => ?_)⟩) (by rw [hm3]; exact w5.1)))))
        rw [nI_clamp (by omega), c0, h9 v z]
        rfl
      · refine t_X12_laysWorlds_37 (pk_le 5 5 (fun _ => ?_) (fun z => absurd z (by omega)))
        rw [nI_1]
        exact ih2 M3 (fun q s' v' hq h1 h2 => c1 q s' v' (by omega) h1 h2) c2
    · have hm2 : M2.1 1 = f := by rw [b2.w, hf]
      refine t_X12_laysWorlds_12 (s_X12_allThings2 hm2 hk (pk_lt (2 ^ tN f - 1) (2 ^ tN f) (fun _ => ?_) (fun z => absurd z (by omega))))
      rw [nI_1]
      exact ih M2 (fun q s v hq h1 h2 => b1 q s v (by omega) h1 h2) b2
  · have hm : M'.1 1 = f := by rw [a2.w, hf]
    exact t_X12_laysWorlds_2 (e_X12_questions (pk_le (qN f) (qN f) (fun _ => hp M' a1 a2) (fun z => absurd z (by omega)) (by rw [hm]; exact q8.1)))
theorem s_X12_alikeBy {post : Int32 → zM → Prop} {q a b : Nat} (hf : M.1 1 = f) (hk : okF f) (hz : rzW M f) (hq : q < qN f) (ha : a < 2 ^ tN f) (hb : b < 2 ^ tN f) (hp : post (bI (alk f q a b)) M) : zCi E jX12_alikeBy (D + 1) 0 [.ref 0, .int (nI q), .int (nI a), .int (nI b)] M post px := by
  have w5 := hk.w
  have q8 := hk.q.2
  have t64 := two_t hk
  have h00 : bI (∀ v, v < 0 → rzF f q a v = rzF f q b v) = 1 := bI_t (fun v hv => absurd hv (by omega))
  have key := zup_loop (fun i => w_X12_alikeBy_6 E D post px (nI q) (nI a) (nI b) (bI (∀ v, v < i → rzF f q a v = rzF f q b v)) (nI i) M) (wN f) (fun i hi ih => ?_) ?_ 0 (by omega)
  · rw [h00] at key
    exact e_X12_alikeBy key
  · have nx : ∀ v, v = bI (∀ v, v < i + 1 → rzF f q a v = rzF f q b v) → w_X12_alikeBy_52 E D post px (nI q) (nI a) (nI b) (nI i) v M := fun v hv => t_X12_alikeBy_52 (by
      rw [nI_1, hv]
      exact ih)
    refine t_X12_alikeBy_6 (e_X12_witnesses (pk_le (wN f) i (fun z => absurd z (by omega)) (fun _ => ⟨fun z => t_X12_alikeBy_51 (nx 0 (bI_f (fun y => bI_0.mp z (fun v hv => y v (by omega)))).symm), fun z => s_X12_risenAt (by omega) ⟨pk_in _ _ (show rzI q a i < 2560 by unfold rzI; omega), s_X12_risenAt (by omega) ⟨pk_in _ _ (show rzI q b i < 2560 by unfold rzI; omega), ?_⟩⟩⟩) (by rw [hf]; exact w5.1)))
    rw [nI_clamp (n := rzI q a i) (by unfold rzI; omega), nI_clamp (n := rzI q b i) (by unfold rzI; omega), hz q a i hq ha hi, hz q b i hq hb hi]
    refine ⟨fun y => t_X12_alikeBy_51 (nx 0 (bI_f (fun x => y (x i (by omega)))).symm), fun y => nx 1 (bI_t (fun v hv => ?_)).symm⟩
    by_cases c : v = i
    · rw [c]; exact y
    · exact bI_n0.mp z v (by omega)
  · exact t_X12_alikeBy_6 (e_X12_witnesses (pk_le (wN f) (wN f) (fun _ => ⟨bI_01 _, hp⟩) (fun z => absurd z (by omega)) (by rw [hf]; exact w5.1)))
end WEIGH
