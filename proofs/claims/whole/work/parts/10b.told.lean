/-! ===== drawing; the log told ===== -/
def drawR (f : zRow) : zRow := upd f 11 (1103515245 * f 11 + 12345)
def drawV (f : zRow) : Int32 := (zushr (1103515245 * f 11 + 12345) 16) &&& 32767
theorem draw_eq (x : Int32) : (x >>> ((16 : Int32) &&& 31)) &&& 32767 = (zushr x 16) &&& 32767 := by
  apply bt_ext
  intro i hi
  rw [bt_and, bt_and]
  by_cases c : i < 15
  · congr 1
    rw [show (16 : Int32) = nI 16 from rfl, bt_shr (by decide) (by omega)]
    have e : (zushr x (nI 16)).toBitVec = x.toBitVec >>> 16 := by
      show (x.toUInt32 >>> ((nI 16).toUInt32 &&& Int32.toUInt32 31)).toInt32.toBitVec = _
      exact UInt32.toBitVec_shiftRight _ _
    show _ = (zushr x (nI 16)).toBitVec.getLsbD i
    rw [e, BitVec.getLsbD_ushiftRight]
    rfl
  · have : bt 32767 i = false := by
      have h := (by decide +kernel : ∀ j : Fin 32, 15 ≤ j.val → bt 32767 j.val = false) ⟨i, hi⟩ (show 15 ≤ i by omega)
      exact h
    rw [this, Bool.and_false, Bool.and_false]
theorem drawV_N (f : zRow) : isN (drawV f) 32767 := by
  obtain ⟨j, h1, h2⟩ := pk_andE (zushr (1103515245 * f 11 + 12345) 16) (m := 32767) 15 (by decide +kernel)
  exact ⟨j, by omega, h2⟩
theorem rem_N {x : Int32} {a d : Nat} (h : isN x a) (ha : a < 2 ^ 31) (h0 : 0 < d) (hd : d < 2 ^ 31) : isN (zrem x (nI d)) (d - 1) := by
  obtain ⟨n, hn, rfl⟩ := h
  have e : zrem (nI n) (nI d) = nI (n % d) := pk_rem (by omega) h0 hd
  rw [e]
  have := Nat.mod_lt n h0
  exact ⟨n % d, by omega, rfl⟩
def toldR (f : zRow) (w how q n : Int32) : zRow := fun j => if 77 ≤ j ∧ j < 372 then f (j - 5) else if j = 72 then f 6 else if j = 73 then w else if j = 74 then how else if j = 75 then q else if j = 76 then n else if j = 10 then zmin 60 (f 10 + 1) else f j
section TOLD
variable {E : zEv} {D : Nat} {px : String → zM → Prop} {M : zM} {f : zRow} {w how q n : Int32}
theorem told_sm : smR f (toldR f w how q n) := fun j hj => by
  unfold chg at hj
  unfold toldR
  rw [if_neg (by omega), if_neg (by omega), if_neg (by omega), if_neg (by omega), if_neg (by omega), if_neg (by omega), if_neg (by omega)]
theorem told_o {j : Nat} (h : j < 72) (h2 : j ≠ 10) : toldR f w how q n j = f j := by
  unfold toldR
  rw [if_neg (by omega), if_neg (by omega), if_neg (by omega), if_neg (by omega), if_neg (by omega), if_neg (by omega), if_neg (by omega)]
theorem told_10 : toldR f w how q n 10 = zmin 60 (f 10 + 1) := rfl
theorem told_ok (hk : okF f) : okF (toldR f w how q n) := by
  have w5 := hk.w.2
  have t6 := hk.t.2
  have q8 := hk.q.2
  have k4 := hk.k.2
  have o : ∀ j, j < 72 → j ≠ 10 → toldR f w how q n j = f j := fun j h1 h2 => told_o h1 h2
  obtain ⟨⟨a0, a1, a2, a3, a4, a5, a6, a7, a8, a9, a10⟩, b, c, d, e⟩ := hk
  have e0 := o 0 (by decide) (by decide)
  have e1 := o 1 (by decide) (by decide)
  have e2 := o 2 (by decide) (by decide)
  have e3 := o 3 (by decide) (by decide)
  refine ⟨⟨by rw [e0]; exact a0, by rw [e1]; exact a1, by rw [e2]; exact a2, by rw [e3]; exact a3, by rw [o 4 (by decide) (by decide)]; exact a4, by rw [o 5 (by decide) (by decide)]; exact a5, by rw [o 6 (by decide) (by decide)]; exact a6, by rw [o 7 (by decide) (by decide)]; exact a7, by rw [o 8 (by decide) (by decide)]; exact a8, by rw [o 9 (by decide) (by decide)]; exact a9, ?_⟩, fun i hi => ?_, fun t ht => ?_, fun q hq => ?_, fun k hk => ?_⟩
  · rw [told_10]
    obtain ⟨g, hg, eg⟩ := a10
    rw [eg, nI_1, show (60 : Int32) = nI 60 from rfl, zmin_nI (by decide) (by omega)]
    exact ⟨min 60 (g + 1), by omega, rfl⟩
  · rw [wN, e0] at hi
    have hi2 : i < wN f := hi
    obtain ⟨b1, b2, b3, b4, b5, b6, b7, b8, b9, b10⟩ := b i hi
    have l5 := b5.le (by decide)
    have l7 := b7.le (by decide)
    unfold okW
    rw [wN, e0, o (29 + 5 * i) (by omega) (by omega), o (29 + 5 * i + 1) (by omega) (by omega), o (29 + 5 * i + 2) (by omega) (by omega), o (29 + 5 * i + 3) (by omega) (by omega), o (29 + 5 * i + 4) (by omega) (by omega), o (24 + i) (by omega) (by omega), o (24 + tn (f (29 + 5 * i + 4))) (by omega) (by omega), o (29 + 5 * tn (f (24 + i)) + 4) (by omega) (by omega)]
    exact ⟨b1, b2, b3, b4, b5, b6, b7, b8, b9, b10⟩
  · rw [tN, e1] at ht
    have ht2 : t < tN f := ht
    have c1 := c t ht
    unfold okT at c1 ⊢
    rw [o (54 + 3 * t) (by omega) (by omega), o (54 + 3 * t + 1) (by omega) (by omega), o (54 + 3 * t + 2) (by omega) (by omega)]
    exact c1
  · rw [qN, e2] at hq
    have hq2 : q < qN f := hq
    rw [tN, e1, o (12 + q) (by omega) (by omega)]
    exact d q hq
  · rw [kN, e3] at hk
    have hk2 : k < kN f := hk
    rw [o (20 + k) (by omega) (by omega)]
    exact e k hk
/-- nothing but the world has changed -/
def r1 (M' M : zM) : Prop := (∀ o, o ≠ 1 → M'.1 o = M.1 o) ∧ M'.2 = M.2
theorem r1.refl {M : zM} : r1 M M := ⟨fun _ _ => rfl, rfl⟩
theorem r1.trans {M1 M2 M3 : zM} (h : r1 M1 M2) (h2 : r1 M2 M3) : r1 M1 M3 := ⟨fun o a => (h.1 o a).trans (h2.1 o a), h.2.trans h2.2⟩
theorem r1.up {M : zM} {j : Nat} {v : Int32} : r1 (zup M 1 j v) M := ⟨fun _ ho => zup_o ho, rfl⟩
theorem r1.rq {M' M : zM} (h : r1 M' M) : rq M' M := ⟨fun o a _ _ _ => h.1 o a, h.2⟩
theorem s_X12_isTold {post : zM → Prop} (hf : M.1 1 = f) (hp : ∀ M', M'.1 1 = toldR f w how q n → r1 M' M → post M') : zCv E jX12_isTold D 0 [.ref 0, .int w, .int how, .int q, .int n] M post px := by
  have key := zdn_loop (fun i => i ≤ 295 → ∀ M', M'.1 1 = (fun j => if 72 + 5 + i ≤ j ∧ j < 372 then f (j - 5) else f j) → r1 M' M → w_X12_isTold_5 E D post px w how q n (nI (4 + i)) M') (fun i ih hi M' hm hr => ?_) (fun _ M' hm hr => ?_) 295 (Nat.le_refl _) M (by
    rw [hf]
    funext j
    rw [if_neg (by omega)]) r1.refl
  · exact e_X12_isTold key
  · refine t_X12_isTold_5 (pk_lt (4 + (i + 1)) 5 (fun z => absurd z (by omega)) (fun _ => ?_))
    rw [show (72 : Int32) + nI (4 + (i + 1)) = nI (72 + (4 + (i + 1))) from nI_add 72 _, show nI (72 + (4 + (i + 1))) - 5 = nI (72 + i) by rw [show (5 : Int32) = nI 5 from rfl, pk_sub (by omega), show 72 + (4 + (i + 1)) - 5 = 72 + i by omega], nI_clamp (by omega), nI_clamp (by omega)]
    refine ⟨pk_in _ _ (show 72 + i < 2070 by omega), pk_in _ _ (show 72 + (4 + (i + 1)) < 2070 by omega), fun M20 e20 => ?_⟩
    rw [show nI (4 + (i + 1)) + -1 = nI (4 + i) from pk_m1 (4 + i)]
    refine ih (by omega) M20 ?_ (by rw [e20]; exact r1.up.trans hr)
    rw [e20, zup_row, hm]
    funext j
    by_cases cj : j = 72 + (4 + (i + 1))
    · subst cj
      rw [pk_us]
      dsimp only
      rw [if_neg (by omega), if_pos (by omega)]
      exact congrArg f (by omega)
    · rw [pk_un cj]
      by_cases c2 : 72 + 5 + i ≤ j ∧ j < 372
      · rw [if_pos c2, if_pos (by omega)]
      · rw [if_neg c2, if_neg (by omega)]
  · refine t_X12_isTold_5 (pk_lt (4 + 0) 5 (fun _ M4 e4 M6 e6 M8 e8 M10 e10 M12 e12 M14 e14 => ?_) (fun z => absurd z (by omega)))
    have e6' : M'.1 1 (6 : Int32).toNatClampNeg = f 6 := by rw [hm]; exact if_neg (by decide)
    rw [e6'] at e4
    have r12 : M12.1 1 = upd (upd (upd (upd (upd (M'.1 1) 72 (f 6)) 73 w) 74 how) 75 q) 76 n := by
      rw [e12, zup_row, e10, zup_row, e8, zup_row, e6, zup_row, e4, zup_row]
      rfl
    have e10' : M12.1 1 (10 : Int32).toNatClampNeg = f 10 := by
      rw [r12, hm]
      rfl
    rw [e10'] at e14
    refine hp M14 ?_ (by rw [e14]; exact r1.up.trans (by rw [e12]; exact r1.up.trans (by rw [e10]; exact r1.up.trans (by rw [e8]; exact r1.up.trans (by rw [e6]; exact r1.up.trans (by rw [e4]; exact r1.up.trans hr))))))
    rw [e14, zup_row, r12, hm]
    funext j
    show upd _ 10 _ j = _
    unfold toldR
    by_cases c0 : 77 ≤ j ∧ j < 372
    · rw [if_pos c0, pk_un (by omega), pk_un (by omega), pk_un (by omega), pk_un (by omega), pk_un (by omega), pk_un (by omega), if_pos (by omega)]
    · rw [if_neg c0]
      by_cases c1 : j = 72
      · subst c1; rfl
      · rw [if_neg c1]
        by_cases c2 : j = 73
        · subst c2; rfl
        · rw [if_neg c2]
          by_cases c3 : j = 74
          · subst c3; rfl
          · rw [if_neg c3]
            by_cases c4 : j = 75
            · subst c4; rfl
            · rw [if_neg c4]
              by_cases c5 : j = 76
              · subst c5; rfl
              · rw [if_neg c5]
                by_cases c6 : j = 10
                · subst c6; rfl
                · rw [if_neg c6, pk_un c6, pk_un c5, pk_un c4, pk_un c3, pk_un c2, pk_un c1, if_neg (by omega)]
/-- the class tells -/
theorem s_X7_add {post : zM → Prop} {c a b qu : Nat} {nn : Nat} (hc : zIsC c) (hr : cR M c f) (hk : okF f) (ha : a < 5) (hb : b ≤ 2) (hq : qu ≤ 8) (hn : nn < 65536) (hp : ∀ M', cR M' c (toldR f (nI a) (nI b) (nI qu - 1) (nI nn)) → offC M' M c → post M') : zCv E jX7_add D 0 [.ref (c + 8), .int (f 6), .int (nI a), .int (nI b), .int (nI qu - 1), .int (nI nn)] M post px := by
  have hlo := hc.lo
  have g60 := hk.g
  obtain ⟨mo, hmo, emo⟩ : isN (f 6) 9999 := hk.1.2.2.2.2.2.2.1
  obtain ⟨⟨s0, s1, s2, s3, s4, s5, s6, s7, s8, s9, s10⟩, r, t, q', k, l1, nx, l2, l3, l4⟩ := hr
  refine e_X7_add hc ?_
  rw [l3, emo, show nI qu - 1 + 1 = nI qu from Int32.sub_add_cancel _ _, lg_pack (by omega) (by omega) (by omega) hn (by omega), nI_clamp (by omega)]
  refine ⟨pk_in nx _ l2, fun M3 e3 M5 e5 M7 e7 => ?_⟩
  have b3 : M3.1 (c + 8) 2 = nI nx := by rw [e3, zupL_I]; exact l3
  have b31 : M3.1 (c + 8) 1 = nI (gN f) := by rw [e3, zupL_I]; exact l1.trans g60.1
  rw [b3, nI_1, show zrem (nI (nx + 1)) 60 = nI ((nx + 1) % 60) from pk_rem (a := nx + 1) (d := 60) (by omega) (by decide) (by decide)] at e5
  have b51 : M5.1 (c + 8) 1 = nI (gN f) := by rw [e5, zup_n (Or.inr (by decide))]; exact b31
  rw [b51, nI_1, show (60 : Int32) = nI 60 from rfl, zmin_nI (by decide) (by omega)] at e7
  have I7 : ∀ o, o ≠ c + 8 → M7.1 o = M.1 o := fun o ho => by rw [e7, zup_o ho, e5, zup_o ho, e3, zupL_I]
  have L7 : M7.2 = M3.2 := by rw [e7, zup_L, e5, zup_L]
  have t10 : toldR f (nI a) (nI b) (nI qu - 1) (nI nn) 10 = nI (min 60 (gN f + 1)) := by
    rw [told_10, g60.1, nI_1, show (60 : Int32) = nI 60 from rfl, zmin_nI (by decide) (by omega)]
  have o : ∀ j, j < 72 → j ≠ 10 → toldR f (nI a) (nI b) (nI qu - 1) (nI nn) j = f j := fun j h1 h2 => told_o h1 h2
  have w5 := hk.w.2
  have t6 := hk.t.2
  have q8 := hk.q.2
  have k4 := hk.k.2
  refine hp M7 ⟨?_, fun i hi => ?_, fun i hi => ?_, fun i hi => ?_, fun i hi => ?_, ?_, (nx + 1) % 60, by omega, ?_, fun i hi => ?_⟩ ?_
  · unfold cR1
    rw [so_sm told_sm t6, o 0 (by decide) (by decide), o 1 (by decide) (by decide), o 2 (by decide) (by decide), o 3 (by decide) (by decide), o 4 (by decide) (by decide), o 6 (by decide) (by decide), o 7 (by decide) (by decide), o 8 (by decide) (by decide), o 9 (by decide) (by decide), o 11 (by decide) (by decide), I7 (c + 1) (by omega), I7 c (by omega)]
    exact ⟨s0, s1, s2, s3, s4, s5, s6, s7, s8, s9, s10⟩
  · rw [wN, o 0 (by decide) (by decide)] at hi
    have hi2 : i < wN f := hi
    have := r i hi
    unfold cR2 at this ⊢
    rw [o (29 + 5 * i) (by omega) (by omega), o (29 + 5 * i + 1) (by omega) (by omega), o (29 + 5 * i + 2) (by omega) (by omega), o (29 + 5 * i + 3) (by omega) (by omega), o (29 + 5 * i + 4) (by omega) (by omega), o (24 + i) (by omega) (by omega), I7 (c + 2) (by omega), I7 (c + 3) (by omega), I7 (c + 4) (by omega), I7 (c + 5) (by omega), I7 (c + 6) (by omega), I7 (c + 7) (by omega)]
    exact this
  · rw [tN, o 1 (by decide) (by decide)] at hi
    have hi2 : i < tN f := hi
    rw [I7 (c + 10) (by omega), I7 (c + 11) (by omega), o (54 + 3 * i) (by omega) (by omega), o (54 + 3 * i + 1) (by omega) (by omega)]
    exact t i hi
  · rw [qN, o 2 (by decide) (by decide)] at hi
    have hi2 : i < qN f := hi
    rw [I7 (c + 12) (by omega), o (12 + i) (by omega) (by omega)]
    exact q' i hi
  · rw [kN, o 3 (by decide) (by decide)] at hi
    have hi2 : i < kN f := hi
    rw [I7 (c + 13) (by omega), o (20 + i) (by omega) (by omega)]
    exact k i hi
  · rw [e7, zup_s, t10]
  · rw [e7, zup_n (Or.inr (by decide)), e5, zup_s]
  · have hgn : gN (toldR f (nI a) (nI b) (nI qu - 1) (nI nn)) = min 60 (gN f + 1) := by unfold gN; rw [t10, tn_nI (by omega)]
    rw [hgn] at hi
    rw [L7, e3]
    by_cases c0 : i = 0
    · subst c0
      rw [show ((nx + 1) % 60 + 59 - 0) % 60 = nx by omega, zupL_s]
      exact ⟨mo, a, b, qu, nn, hmo, ha, hb, hq, hn, emo, rfl, rfl, rfl, rfl, rfl⟩
    · obtain ⟨i', rfl⟩ : ∃ i', i = i' + 1 := ⟨i - 1, by omega⟩
      rw [show ((nx + 1) % 60 + 59 - (i' + 1)) % 60 = (nx + 59 - i') % 60 by omega, zupL_n (Or.inr (by omega))]
      have := l4 i' (by omega)
      unfold lgR at this ⊢
      have sh : ∀ d, d < 5 → toldR f (nI a) (nI b) (nI qu - 1) (nI nn) (72 + 5 * (i' + 1) + d) = f (72 + 5 * i' + d) := fun d hd => by
        unfold toldR
        rw [if_pos (by omega)]
        exact congrArg f (by omega)
      rw [show toldR f (nI a) (nI b) (nI qu - 1) (nI nn) (72 + 5 * (i' + 1)) = f (72 + 5 * i') from sh 0 (by decide), sh 1 (by decide), sh 2 (by decide), sh 3 (by decide), sh 4 (by decide)]
      exact this
  · intro o h4
    exact ⟨I7 o (by omega), by rw [L7, e3, zupL_o (by omega)]⟩
end TOLD
