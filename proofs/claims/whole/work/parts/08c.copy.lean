/-! ===== courts copied ===== -/
section CP
variable {E : zEv} {D : Nat} {post : zM → Prop} {px : String → zM → Prop} {M : zM}
theorem zup_o {M : zM} {o j a : Nat} {v : Int32} (h : a ≠ o) : (zup M o j v).1 a = M.1 a := funext fun i => if_neg (fun z => h z.1)
theorem zup_L {M : zM} {o j : Nat} {v : Int32} : (zup M o j v).2 = M.2 := rfl
theorem zupL_I {M : zM} {o j : Nat} {v : Int64} : (zupL M o j v).1 = M.1 := rfl
theorem zupL_o {M : zM} {o j a : Nat} {v : Int64} (h : a ≠ o) : (zupL M o j v).2 a = M.2 a := funext fun i => if_neg (fun z => h z.1)
theorem zrow_o {M : zM} {o a : Nat} {g : Nat → Int32} (h : a ≠ o) : (zrow M o g).1 a = M.1 a := funext fun i => if_neg h
theorem zrow_L {M : zM} {o : Nat} {g : Nat → Int32} : (zrow M o g).2 = M.2 := rfl
theorem zrowL_I {M : zM} {o : Nat} {g : Nat → Int64} : (zrowL M o g).1 = M.1 := rfl
theorem zrowL_o {M : zM} {o a : Nat} {g : Nat → Int64} (h : a ≠ o) : (zrowL M o g).2 a = M.2 a := funext fun i => if_neg h
theorem cpy0 {α : Type} {f g : Nat → α} {n j : Nat} (h : j < n) : va_cpy f g 0 0 n j = f j := by
  rw [pk_cpy_in (Nat.zero_le _) (by omega)]
  congr 1
  omega
theorem n0 : ((0 : Int32)).toNatClampNeg = 0 := rfl
theorem n4 : ((4 : Int32)).toNatClampNeg = 4 := rfl
theorem n5 : ((5 : Int32)).toNatClampNeg = 5 := rfl
theorem n6 : ((6 : Int32)).toNatClampNeg = 6 := rfl
theorem n8 : ((8 : Int32)).toNatClampNeg = 8 := rfl
theorem n60 : ((60 : Int32)).toNatClampNeg = 60 := rfl
theorem zIsC.dis {c c2 : Nat} (h : zIsC c) (h2 : zIsC c2) (hn : c ≠ c2) : c + 14 ≤ c2 ∨ c2 + 14 ≤ c := by
  obtain ⟨i, hi, rfl⟩ := h
  obtain ⟨j, hj, rfl⟩ := h2
  omega
def crtE (M' : zM) (c : Nat) (M : zM) (c2 : Nat) : Prop :=
  (∀ j, 6 ≤ j → j < 16 → M'.1 c j = M.1 c2 j) ∧ M'.1 (c + 1) 6 = M.1 (c2 + 1) 6 ∧ (∀ i j, 2 ≤ i → i < 8 → j < 5 → M'.1 (c + i) j = M.1 (c2 + i) j) ∧ (M'.1 (c + 8) 1 = M.1 (c2 + 8) 1 ∧ M'.1 (c + 8) 2 = M.1 (c2 + 8) 2) ∧ (∀ j, j < 60 → M'.2 (c + 9) j = M.2 (c2 + 9) j) ∧
  (∀ j, j < 6 → M'.1 (c + 10) j = M.1 (c2 + 10) j) ∧ (∀ j, j < 6 → M'.1 (c + 11) j = M.1 (c2 + 11) j) ∧ (∀ j, j < 8 → M'.1 (c + 12) j = M.1 (c2 + 12) j) ∧ (∀ j, j < 4 → M'.1 (c + 13) j = M.1 (c2 + 13) j)
def offC (M' M : zM) (c : Nat) : Prop := ∀ o, (o < c ∨ c + 14 ≤ o) → M'.1 o = M.1 o ∧ M'.2 o = M.2 o
theorem cR_copy {M' M : zM} {c c2 : Nat} {f : zRow} (hk : okF f) (h : cR M c2 f) (e : crtE M' c M c2) : cR M' c f := by
  obtain ⟨e1, e2, e3, ⟨e4, e5⟩, e6, e7, e8, e9, e10⟩ := e
  obtain ⟨h1, h2, h3, h4, h5, h6, nx, h7, h8, h9⟩ := h
  have w := hk.w.2
  have t := hk.t.2
  have q := hk.q.2
  have k := hk.k.2
  refine ⟨?_, fun i hi => ?_, fun i hi => ?_, fun i hi => ?_, fun i hi => ?_, ?_, nx, h7, ?_, fun i hi => ?_⟩
  · unfold cR1 at h1 ⊢
    rw [e2, e1 6 (by decide) (by decide), e1 7 (by decide) (by decide), e1 8 (by decide) (by decide), e1 9 (by decide) (by decide), e1 10 (by decide) (by decide), e1 11 (by decide) (by decide), e1 12 (by decide) (by decide), e1 13 (by decide) (by decide), e1 14 (by decide) (by decide), e1 15 (by decide) (by decide)]
    exact h1
  · have := h2 i hi
    unfold cR2 at this ⊢
    rw [e3 2 i (by decide) (by decide) (by omega), e3 3 i (by decide) (by decide) (by omega), e3 4 i (by decide) (by decide) (by omega), e3 5 i (by decide) (by decide) (by omega), e3 6 i (by decide) (by decide) (by omega), e3 7 i (by decide) (by decide) (by omega)]
    exact this
  · rw [e7 i (by omega), e8 i (by omega)]; exact h3 i hi
  · rw [e9 i (by omega)]; exact h4 i hi
  · rw [e10 i (by omega)]; exact h5 i hi
  · rw [e4]; exact h6
  · rw [e5]; exact h8
  · rw [e6 _ (Nat.mod_lt _ (by decide))]; exact h9 i hi
theorem s_X8_copy {c c2 : Nat} (hc : zIsC c) (hc2 : zIsC c2) (hn : c ≠ c2) (h : ∀ M', (∀ i j, 2 ≤ i → i < 8 → j < 5 → M'.1 (c + i) j = M.1 (c2 + i) j) → M'.1 (c + 1) 6 = M.1 (c2 + 1) 6 → (∀ o, (o < c + 1 ∨ c + 8 ≤ o) → M'.1 o = M.1 o) → M'.2 = M.2 → post M') : zCv E jX8_copy D 0 [.ref (c + 1), .ref (c2 + 1)] M post px := by
  have hd := hc.dis hc2 hn
  refine e_X8_copy hc hc2 (fun M1 e1 M3 e3 M5 e5 M7 e7 M9 e9 M11 e11 M13 e13 => h M13 (fun i j h1 h2 h3 => ?_) ?_ (fun o ho => ?_) ?_)
  · match i, h1, h2 with
    | 2, _, _ => rw [e13, zup_o (by omega), e11, zrow_o (by omega), e9, zrow_o (by omega), e7, zrow_o (by omega), e5, zrow_o (by omega), e3, zrow_o (by omega), e1, zrow_row]; exact cpy0 h3
    | 3, _, _ => rw [e13, zup_o (by omega), e11, zrow_o (by omega), e9, zrow_o (by omega), e7, zrow_o (by omega), e5, zrow_o (by omega), e3, zrow_row, n0, n5, cpy0 h3, e1, zrow_o (by omega)]
    | 4, _, _ => rw [e13, zup_o (by omega), e11, zrow_o (by omega), e9, zrow_o (by omega), e7, zrow_o (by omega), e5, zrow_row, n0, n5, cpy0 h3, e3, zrow_o (by omega), e1, zrow_o (by omega)]
    | 5, _, _ => rw [e13, zup_o (by omega), e11, zrow_o (by omega), e9, zrow_o (by omega), e7, zrow_row, n0, n5, cpy0 h3, e5, zrow_o (by omega), e3, zrow_o (by omega), e1, zrow_o (by omega)]
    | 6, _, _ => rw [e13, zup_o (by omega), e11, zrow_o (by omega), e9, zrow_row, n0, n5, cpy0 h3, e7, zrow_o (by omega), e5, zrow_o (by omega), e3, zrow_o (by omega), e1, zrow_o (by omega)]
    | 7, _, _ => rw [e13, zup_o (by omega), e11, zrow_row, n0, n5, cpy0 h3, e9, zrow_o (by omega), e7, zrow_o (by omega), e5, zrow_o (by omega), e3, zrow_o (by omega), e1, zrow_o (by omega)]
    | i + 8, _, h2 => omega
  · rw [e13, zup_s, e11, zrow_o (by omega), e9, zrow_o (by omega), e7, zrow_o (by omega), e5, zrow_o (by omega), e3, zrow_o (by omega), e1, zrow_o (by omega)]
  · rw [e13, zup_o (by omega), e11, zrow_o (by omega), e9, zrow_o (by omega), e7, zrow_o (by omega), e5, zrow_o (by omega), e3, zrow_o (by omega), e1, zrow_o (by omega)]
  · rw [e13, zup_L, e11, zrow_L, e9, zrow_L, e7, zrow_L, e5, zrow_L, e3, zrow_L, e1, zrow_L]
theorem s_X7_copy {c c2 : Nat} (hc : zIsC c) (hc2 : zIsC c2) (hn : c ≠ c2) (h : ∀ M', (∀ j, j < 60 → M'.2 (c + 9) j = M.2 (c2 + 9) j) → M'.1 (c + 8) 1 = M.1 (c2 + 8) 1 → M'.1 (c + 8) 2 = M.1 (c2 + 8) 2 → (∀ o, o ≠ c + 8 → M'.1 o = M.1 o) → (∀ o, o ≠ c + 9 → M'.2 o = M.2 o) → post M') : zCv E jX7_copy D 0 [.ref (c + 8), .ref (c2 + 8)] M post px := by
  have hd := hc.dis hc2 hn
  refine e_X7_copy hc hc2 (fun M1 e1 M3 e3 M5 e5 => h M5 (fun j hj => ?_) ?_ ?_ (fun o ho => ?_) (fun o ho => ?_))
  · rw [e5, zup_L, e3, zup_L, e1, zrowL_row, n0, n60, cpy0 hj]
  · rw [e5, zup_n (Or.inr (by decide)), e3, zup_s, e1, zrowL_I]
  · rw [e5, zup_s, e3, zup_o (by omega), e1, zrowL_I]
  · rw [e5, zup_o ho, e3, zup_o ho, e1, zrowL_I]
  · rw [e5, zup_L, e3, zup_L, e1, zrowL_o ho]
set_option maxHeartbeats 2000000 in
theorem s_X3_copy {c c2 : Nat} (hc : zIsC c) (hc2 : zIsC c2) (hn : c ≠ c2) (h : ∀ M', crtE M' c M c2 → offC M' M c → post M') : zCv E jX3_copy (D + 1) 0 [.ref c, .ref c2] M post px := by
  have hd := hc.dis hc2 hn
  refine e_X3_copy hc hc2 (s_X8_copy hc hc2 hn (fun M1 a1 a2 a3 a4 => s_X7_copy hc hc2 hn (fun M3 b1 b2 b3 b4 b5 => ?_)))
  intro M5 e5 M7 e7 M9 e9 M11 e11 M13 e13 M15 e15 M17 e17 M19 e19 M21 e21 M23 e23 M25 e25 M27 e27 M29 e29 M31 e31
  have back : ∀ o, o ≠ c → M31.1 o = M11.1 o := fun o ho => by rw [e31, zup_o ho, e29, zup_o ho, e27, zup_o ho, e25, zup_o ho, e23, zup_o ho, e21, zup_o ho, e19, zup_o ho, e17, zup_o ho, e15, zup_o ho, e13, zup_o ho]
  have L31 : M31.2 = M3.2 := by rw [e31, zup_L, e29, zup_L, e27, zup_L, e25, zup_L, e23, zup_L, e21, zup_L, e19, zup_L, e17, zup_L, e15, zup_L, e13, zup_L, e11, zrow_L, e9, zrow_L, e7, zrow_L, e5, zrow_L]
  have b11 : ∀ o, o ≠ c + 10 → o ≠ c + 11 → o ≠ c + 12 → o ≠ c + 13 → M11.1 o = M3.1 o := fun o h1 h2 h3 h4 => by rw [e11, zrow_o h4, e9, zrow_o h3, e7, zrow_o h2, e5, zrow_o h1]
  have far : ∀ o, (o < c ∨ c + 14 ≤ o) → M3.1 o = M.1 o := fun o ho => by rw [b4 o (by omega), a3 o (by omega)]
  have farL : ∀ o, o ≠ c + 9 → M3.2 o = M.2 o := fun o ho => by rw [b5 o ho, a4]
  have k13 : M13.1 c2 = M.1 c2 := by rw [e13, zup_o (by omega), b11 c2 (by omega) (by omega) (by omega) (by omega), far c2 (by omega)]
  have k11 : M11.1 c2 = M.1 c2 := by rw [b11 c2 (by omega) (by omega) (by omega) (by omega), far c2 (by omega)]
  have k15 : M15.1 c2 = M.1 c2 := by rw [e15, zup_o (by omega), k13]
  have k17 : M17.1 c2 = M.1 c2 := by rw [e17, zup_o (by omega), k15]
  have k19 : M19.1 c2 = M.1 c2 := by rw [e19, zup_o (by omega), k17]
  have k21 : M21.1 c2 = M.1 c2 := by rw [e21, zup_o (by omega), k19]
  have k23 : M23.1 c2 = M.1 c2 := by rw [e23, zup_o (by omega), k21]
  have k25 : M25.1 c2 = M.1 c2 := by rw [e25, zup_o (by omega), k23]
  have k27 : M27.1 c2 = M.1 c2 := by rw [e27, zup_o (by omega), k25]
  have k29 : M29.1 c2 = M.1 c2 := by rw [e29, zup_o (by omega), k27]
  refine h M31 ⟨fun j h1 h2 => ?_, ?_, fun i j h1 h2 h3 => ?_, ⟨?_, ?_⟩, fun j hj => ?_, fun j hj => ?_, fun j hj => ?_, fun j hj => ?_, fun j hj => ?_⟩ (fun o ho => ⟨?_, ?_⟩)
  · rw [e31, k29]
    match j, h1, h2 with
    | 15, _, _ => exact zup_s
    | 14, _, _ => rw [zup_n (Or.inr (by decide)), e29, k27]; exact zup_s
    | 13, _, _ => rw [zup_n (Or.inr (by decide)), e29, zup_n (Or.inr (by decide)), e27, k25]; exact zup_s
    | 12, _, _ => rw [zup_n (Or.inr (by decide)), e29, zup_n (Or.inr (by decide)), e27, zup_n (Or.inr (by decide)), e25, k23]; exact zup_s
    | 11, _, _ => rw [zup_n (Or.inr (by decide)), e29, zup_n (Or.inr (by decide)), e27, zup_n (Or.inr (by decide)), e25, zup_n (Or.inr (by decide)), e23, k21]; exact zup_s
    | 10, _, _ => rw [zup_n (Or.inr (by decide)), e29, zup_n (Or.inr (by decide)), e27, zup_n (Or.inr (by decide)), e25, zup_n (Or.inr (by decide)), e23, zup_n (Or.inr (by decide)), e21, k19]; exact zup_s
    | 9, _, _ => rw [zup_n (Or.inr (by decide)), e29, zup_n (Or.inr (by decide)), e27, zup_n (Or.inr (by decide)), e25, zup_n (Or.inr (by decide)), e23, zup_n (Or.inr (by decide)), e21, zup_n (Or.inr (by decide)), e19, k17]; exact zup_s
    | 8, _, _ => rw [zup_n (Or.inr (by decide)), e29, zup_n (Or.inr (by decide)), e27, zup_n (Or.inr (by decide)), e25, zup_n (Or.inr (by decide)), e23, zup_n (Or.inr (by decide)), e21, zup_n (Or.inr (by decide)), e19, zup_n (Or.inr (by decide)), e17, k15]; exact zup_s
    | 7, _, _ => rw [zup_n (Or.inr (by decide)), e29, zup_n (Or.inr (by decide)), e27, zup_n (Or.inr (by decide)), e25, zup_n (Or.inr (by decide)), e23, zup_n (Or.inr (by decide)), e21, zup_n (Or.inr (by decide)), e19, zup_n (Or.inr (by decide)), e17, zup_n (Or.inr (by decide)), e15, k13]; exact zup_s
    | 6, _, _ => rw [zup_n (Or.inr (by decide)), e29, zup_n (Or.inr (by decide)), e27, zup_n (Or.inr (by decide)), e25, zup_n (Or.inr (by decide)), e23, zup_n (Or.inr (by decide)), e21, zup_n (Or.inr (by decide)), e19, zup_n (Or.inr (by decide)), e17, zup_n (Or.inr (by decide)), e15, zup_n (Or.inr (by decide)), e13, k11]; exact zup_s
    | j + 16, _, h2 => omega
  · rw [back _ (by omega), b11 _ (by omega) (by omega) (by omega) (by omega), b4 _ (by omega)]; exact a2
  · rw [back _ (by omega), b11 _ (by omega) (by omega) (by omega) (by omega), b4 _ (by omega)]; exact a1 i j h1 h2 h3
  · rw [back _ (by omega), b11 _ (by omega) (by omega) (by omega) (by omega), b2, a3 _ (by omega)]
  · rw [back _ (by omega), b11 _ (by omega) (by omega) (by omega) (by omega), b3, a3 _ (by omega)]
  · rw [L31, b1 j hj, a4]
  · rw [back _ (by omega), e11, zrow_o (by omega), e9, zrow_o (by omega), e7, zrow_o (by omega), e5, zrow_row, n0, n6, cpy0 hj, far _ (by omega)]
  · rw [back _ (by omega), e11, zrow_o (by omega), e9, zrow_o (by omega), e7, zrow_row, n0, n6, cpy0 hj, e5, zrow_o (by omega), far _ (by omega)]
  · rw [back _ (by omega), e11, zrow_o (by omega), e9, zrow_row, n0, n8, cpy0 hj, e7, zrow_o (by omega), e5, zrow_o (by omega), far _ (by omega)]
  · rw [back _ (by omega), e11, zrow_row, n0, n4, cpy0 hj, e9, zrow_o (by omega), e7, zrow_o (by omega), e5, zrow_o (by omega), far _ (by omega)]
  · rw [back _ (by omega), b11 _ (by omega) (by omega) (by omega) (by omega), far _ ho]
  · rw [L31, farL _ (by omega)]
end CP
