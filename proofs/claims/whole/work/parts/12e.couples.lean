/-! ===== couples: the class's search ===== -/
section COUPLES
variable {E : zEv} {D : Nat} {px : String → zM → Prop} {M : zM} {K : zM → Prop} {f : zRow}
noncomputable def unF (f : zRow) (a b : Nat) : Nat := cN (fun w => ¬ rdF f a (f (29 + 5 * w + 3)) = rdF f b (f (29 + 5 * w + 3))) (wN f)
theorem un_le (hk : okF f) {a b : Nat} : unF f a b ≤ 5 := Nat.le_trans (cN_le _ _) hk.w.2
theorem un_symm {a b : Nat} : unF f a b = unF f b a := cN_c (fun w _ => ⟨fun z y => z y.symm, fun z y => z y.symm⟩)
theorem s_X2_unlike {post : Int32 → zM → Prop} {a b : Nat} (hr : cR M 61 f) (hk : okF f) (ha : a < kN f) (hb : b < kN f) (hp : post (nI (unF f a b)) M) : zCi E jX2_unlike (D + 1) 0 [.ref 61, .int (nI a), .int (nI b)] M post px := by
  have w5 := hk.w
  have k4 := hk.k
  have e62 : M.1 62 6 = nI (wN f) := hr.1.1.trans w5.1
  have sh : ∀ k, k < kN f → M.1 74 k = nI (tn (f (20 + k))) ∧ f (20 + k) = nI (tn (f (20 + k))) ∧ 0 < tn (f (20 + k)) ∧ tn (f (20 + k)) ≤ 20 := fun k h => by
    have e := hr.2.2.2.2.1 k h
    have s := hk.2.2.2.2 k h
    have q := s.1.eq (by decide)
    exact ⟨e.trans q, q, s.2, s.1.le (by decide)⟩
  obtain ⟨a1, a2, a3, a4⟩ := sh a ha
  obtain ⟨b1, b2, b3, b4⟩ := sh b hb
  refine e_X2_unlike (zup_loop (fun i => w_X2_unlike_5 E D post px (nI a) (nI b) (cntI (fun w => ¬ rdF f a (f (29 + 5 * w + 3)) = rdF f b (f (29 + 5 * w + 3))) i) (nI i) M) (wN f) (fun i hi ih => ?_) ?_ 0 (by omega))
  · have e66 : M.1 66 i = f (29 + 5 * i + 3) := (hr.2.1 i hi).2.2.2.1
    refine t_X2_unlike_5 (pk_le (wN f) i (fun z => absurd z (by omega)) (fun _ => ⟨pk_in i _ (by omega), pk_in a _ (by omega), ?_⟩) e62)
    rw [nI_clamp (n := a) (by omega), nI_clamp (n := b) (by omega), nI_clamp (n := i) (by omega), a1, e66]
    refine s_X11_readBy a3 a4 ⟨pk_in b _ (by omega), ?_⟩
    rw [b1]
    refine s_X11_readBy b3 b4 ?_
    rw [← a2, ← b2]
    refine ⟨fun z => t_X2_unlike_57 ?_, fun z => t_X2_unlike_57 ?_⟩
    · rw [nI_1, cnt_n (p := fun w => ¬ rdF f a (f (29 + 5 * w + 3)) = rdF f b (f (29 + 5 * w + 3))) (fun y => y z)]; exact ih
    · rw [nI_1, cnt_y (p := fun w => ¬ rdF f a (f (29 + 5 * w + 3)) = rdF f b (f (29 + 5 * w + 3))) z]; exact ih
  · refine t_X2_unlike_5 (pk_le (wN f) (wN f) (fun _ => ?_) (fun z => absurd z (by omega)) e62)
    rw [cN_I]
    exact hp
/-- the first best completion: S the free ones, k = n - w -/
def tU (T : Nat → Int32) (i : Nat) (v : Int32) : Nat → Int32 := fun j => if j = i then v else T j
def opA (c : Nat → Nat × (Nat → Int32)) (w S : Nat) : Nat × (Nat → Int32) := ((c (S - 2 ^ w)).1, tU (c (S - 2 ^ w)).2 w (-1))
def opB (c : Nat → Nat × (Nat → Int32)) (u : Nat → Nat → Nat) (w S o : Nat) : Nat × (Nat → Int32) := (u w o + (c (S - 2 ^ w - 2 ^ o)).1, tU (tU (c (S - 2 ^ w - 2 ^ o)).2 w (nI o)) o (nI w))
def btr (a b : Nat × (Nat → Int32)) : Nat × (Nat → Int32) := if a.1 < b.1 then b else a
def Lf (c : Nat → Nat × (Nat → Int32)) (u : Nat → Nat → Nat) (w S : Nat) : Nat → Nat × (Nat → Int32)
  | 0 => opA c w S
  | j + 1 => if S.testBit (w + 1 + j) = true then btr (Lf c u w S j) (opB c u w S (w + 1 + j)) else Lf c u w S j
def CS (u : Nat → Nat → Nat) : Nat → Nat → Nat → Nat × (Nat → Int32)
  | 0, _, _ => (0, fun _ => -1)
  | k + 1, w, S => if S.testBit w = true then Lf (CS u k (w + 1)) u w S k else CS u k (w + 1) S
/-- the most so far (0: none), and what it is -/
def mI (m : Nat) : Int32 := if m = 0 then -1 else nI (m - 1)
def nxM (m sum v : Nat) : Nat := if m < sum + v + 1 then sum + v + 1 else m
theorem mI_le {m s : Nat} (hs : s < 2 ^ 30) (hm : m < 2 ^ 30) : nI s ≤ mI m ↔ s < m := by
  unfold mI
  by_cases c : m = 0
  · rw [if_pos c]
    refine ⟨fun z => absurd z (fun z => ?_), fun z => absurd z (by omega)⟩
    have h1 : (nI 0) ≤ nI s := nI_le (Nat.zero_le _) (by omega)
    rw [fa_le] at h1 z
    have h2 : (nI 0).toInt = 0 := rfl
    have h3 : ((-1 : Int32)).toInt = -1 := by decide
    omega
  · rw [if_neg c, nI_leI (by omega) (by omega)]
    omega
/-- the class's search keeps all but its own three -/
def cw (M' M : zM) : Prop := (∀ o, o ≠ 56 → o ≠ 57 → o ≠ 58 → M'.1 o = M.1 o) ∧ M'.2 = M.2
theorem cw.refl : cw M M := ⟨fun _ _ _ _ => rfl, rfl⟩
theorem cw.trans {M1 M2 M3 : zM} (h : cw M1 M2) (h2 : cw M2 M3) : cw M1 M3 := ⟨fun o a b c => (h.1 o a b c).trans (h2.1 o a b c), h.2.trans h2.2⟩
theorem cw.up {o j : Nat} {v : Int32} (h : o = 56 ∨ o = 57 ∨ o = 58) : cw (zup M o j v) M := ⟨fun _ _ _ _ => zup_o (by omega), rfl⟩
theorem cw.cr {M' : zM} (h : cw M' M) (hk : okF f) (hr : cR M 61 f) : cR M' 61 f := cR_same (fun o j h1 h2 => ⟨by rw [h.1 o (by omega) (by omega) (by omega)], by rw [h.2]⟩) hk hr
theorem cw.pi {M' : zM} (h : cw M' M) : zpi M' = zpi M := zpi_of fun o j hi => ⟨by
  rw [h.1 o (by rintro rfl; cases hi) (by rintro rfl; cases hi) (by rintro rfl; cases hi)], by rw [h.2]⟩
abbrev mgF (T B : Nat → Int32) (S : Nat) (j : Nat) : Int32 := if S.testBit j = true then B j else T j
theorem lt_sum (hk : okF f) : ∀ k w S, (CS (unF f) k w S).1 ≤ 5 * k
  | 0, _, _ => Nat.le_refl 0
  | k + 1, w, S => by
    have ih := lt_sum hk k
    rw [CS]
    by_cases c : S.testBit w = true
    · rw [if_pos c]
      have : ∀ j, (Lf (CS (unF f) k (w + 1)) (unF f) w S j).1 ≤ 5 * (k + 1) := fun j => by
        induction j with
        | zero => exact Nat.le_trans (ih _ _) (by omega)
        | succ j ihj =>
          rw [Lf]
          by_cases d : S.testBit (w + 1 + j) = true
          · rw [if_pos d, btr]
            by_cases e : (Lf (CS (unF f) k (w + 1)) (unF f) w S j).1 < (opB (CS (unF f) k (w + 1)) (unF f) w S (w + 1 + j)).1
            · rw [if_pos e]
              have h1 := ih (w + 1) (S - 2 ^ w - 2 ^ (w + 1 + j))
              have h2 := un_le hk (a := w) (b := w + 1 + j)
              show unF f w (w + 1 + j) + (CS (unF f) k (w + 1) (S - 2 ^ w - 2 ^ (w + 1 + j))).1 ≤ _
              omega
            · rw [if_neg e]; exact ihj
          · rw [if_neg d]; exact ihj
      exact this k
    · rw [if_neg c]
      exact Nat.le_trans (ih _ _) (by omega)
end COUPLES
