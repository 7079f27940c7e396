/-! ===== odds ===== -/
def bnN (n : Nat) : Nat → Nat
  | 0 => 1
  | i + 1 => bnN n i * (n - i) / (i + 1)
def pwN (o L b : Nat) : Nat → Nat
  | 0 => b
  | i + 1 => pwN o L b i * (if i < o then L else 100 - L)
def wyN (n o L : Nat) : Nat := pwN o L (bnN n o) n
def hsN (n k L : Nat) : Nat → Nat
  | 0 => 0
  | j + 1 => hsN n k L j + wyN n (k + j) L
def rwN (L : Nat) : Nat → Nat → Nat
  | 0, i => if i = 0 then 1 else 0
  | s + 1, i => rwN L s i * (100 - L) + (if i = 0 then 0 else rwN L s (i - 1) * L)
def rsN (n k L : Nat) : Nat → Nat
  | 0 => 0
  | j + 1 => rsN n k L j + rwN L n (k + j)
theorem bn_lt : ∀ (n : Fin 6) (i : Fin 6), bnN n.val i.val * (n.val - i.val) < 2 ^ 31 := by decide +kernel
theorem od_all : ∀ (n : Fin 6) (k : Fin 6) (L : Fin 101), hsN n.val k.val L.val (n.val + 1 - k.val) * 10000 < 2 ^ 63 ∧ 10000 * rsN n.val k.val L.val (6 - k.val) < 2 ^ 63 ∧ hsN n.val k.val L.val (n.val + 1 - k.val) * 10000 / 100 ^ n.val = 10000 * rsN n.val k.val L.val (6 - k.val) / 100 ^ n.val := by decide +kernel
section ODDS
variable {E : zEv} {D : Nat} {px : String → zM → Prop} {M : zM} {K : zM → Prop}
theorem pw100 {n : Nat} (h : n ≤ 5) : 0 < 100 ^ n ∧ 100 ^ n < 2 ^ 63 := by
  have := (by decide +kernel : ∀ n : Fin 6, 0 < 100 ^ n.val ∧ 100 ^ n.val < 2 ^ 63) ⟨n, by omega⟩
  exact this
theorem lN_ne0 {a : Nat} (h0 : 0 < a) (h : a < 2 ^ 63) : ¬ lN a = 0 := fun z => by
  have := (pk_lEQ (b := 0) h (by decide)).mp z
  omega
theorem s_X11_waysOf {post : Int64 → zM → Prop} {n o L : Nat} (hn : n ≤ 5) (ho : o ≤ n) (hL : L ≤ 100) (h12 : M.1 61 12 = nI L) (hp : post (lN (wyN n o L)) M) : zCl E jX11_waysOf D 0 [.ref 19, .int (nI n), .int (nI o)] M post px := by
  have loop2 : w_X11_waysOf_34 E D post px (nI n) (nI o) (lN (bnN n o)) 0 M := by
    refine zup_loop (fun i => w_X11_waysOf_34 E D post px (nI n) (nI o) (lN (pwN o L (bnN n o) i)) (nI i) M) n (fun i hi ih => ?_) ?_ 0 (by omega)
    · have h69 : ∀ v : Nat, v = (if i < o then L else 100 - L) → w_X11_waysOf_69 E D post px (nI n) (nI o) (nI i) (lN v) (lN (pwN o L (bnN n o) i)) M := fun v hv => t_X11_waysOf_69 (by
        rw [lN_mul, nI_1, hv]
        exact ih)
      have e1 : (100 : Int32) - nI L = nI (100 - L) := pk_sub (a := 100) hL
      refine t_X11_waysOf_34 (pk_le n i (fun z => absurd z (by omega)) (fun _ => pk_le o i (fun z => ?_) (fun z => ?_)))
      · rw [h12, e1, nI_l (by omega)]
        exact h69 _ (by rw [if_neg (by omega)])
      · rw [h12, nI_l (by omega)]
        exact h69 _ (by rw [if_pos z])
    · exact t_X11_waysOf_34 (pk_le n n (fun _ => hp) (fun z => absurd z (by omega)))
  refine e_X11_waysOf (zup_loop (fun i => w_X11_waysOf_5 E D post px (nI n) (nI o) (lN (bnN n i)) (nI i) M) o (fun i hi ih => ?_) ?_ 0 (by omega))
  · have b := bn_lt ⟨n, by omega⟩ ⟨i, by omega⟩
    have b' : bnN n i * (n - i) < 2 ^ 31 := b
    refine t_X11_waysOf_5 (pk_le o i (fun z => absurd z (by omega)) (fun _ => ?_))
    rw [nI_1, pk_sub (show i ≤ n by omega), nI_l (n := i + 1) (by omega), nI_l (n := n - i) (by omega), lN_mul, pk_lDiv (by omega) (by omega) (by omega)]
    exact ⟨lN_ne0 (by omega) (by omega), ih⟩
  · exact t_X11_waysOf_5 (pk_le o o (fun _ => loop2) (fun z => absurd z (by omega)))
theorem s_X11_odds {post : Int32 → zM → Prop} {n k L : Nat} (hn : n ≤ 5) (hk : k ≤ 5) (hL : L ≤ 100) (h12 : M.1 61 12 = nI L) (hp : post (nI (hsN n k L (n + 1 - k) * 10000 / 100 ^ n)) M) : zCi E jX11_odds (D + 1) 1 [.ref 19, .int (nI n), .int (nI k)] M post px := by
  obtain ⟨o1, o2, o3⟩ := od_all ⟨n, by omega⟩ ⟨k, by omega⟩ ⟨L, by omega⟩
  have o1' : hsN n k L (n + 1 - k) * 10000 < 2 ^ 63 := o1
  have p100 := pw100 hn
  have loop2 : w_X11_odds_59 E D post px (nI n) 0 (lN (100 ^ n)) (nI k) M := by
    have key := zup_loop (fun j => w_X11_odds_59 E D post px (nI n) (lN (hsN n k L j)) (lN (100 ^ n)) (nI (k + j)) M) (n + 1 - k) (fun j hj ih => ?_) ?_ 0 (by omega)
    · exact key
    · refine t_X11_odds_59 (pk_lt n (k + j) (fun z => absurd z (by omega)) (fun _ => s_X11_waysOf hn (by omega) hL h12 ?_))
      rw [lN_add, nI_1]
      exact ih
    · refine t_X11_odds_59 (pk_lt n (k + (n + 1 - k)) (fun _ => ⟨lN_ne0 p100.1 p100.2, ?_⟩) (fun z => absurd z (by omega)))
      rw [show (10000 : Int64) = lN 10000 from rfl, lN_mul, pk_lDiv o1' p100.1 p100.2, lN_i]
      exact hp
  refine e_X11_odds ⟨fun z => absurd z (nI_pos (by omega)), fun _ => ⟨fun z => absurd z (nI_nlt hn (by decide)), fun _ => ⟨fun z => absurd z (nI_pos (by omega)), fun _ => ⟨fun _ => ?_, fun z => absurd (nI_le hk (by decide)) z⟩⟩⟩⟩
  refine zup_loop (fun i => w_X11_odds_36 E D post px (nI n) (nI k) 0 (lN (100 ^ i)) (nI i) M) n (fun i hi ih => ?_) ?_ 0 (by omega)
  · refine t_X11_odds_36 (pk_le n i (fun z => absurd z (by omega)) (fun _ => ?_))
    rw [show (100 : Int64) = lN 100 from rfl, lN_mul, ← Nat.pow_succ, nI_1]
    exact ih
  · exact t_X11_odds_36 (pk_le n n (fun _ => loop2) (fun z => absurd z (by omega)))
/-- nothing but the row of ways has changed -/
def rw17 (M' M : zM) : Prop := M'.1 = M.1 ∧ ∀ o, o ≠ 17 → M'.2 o = M.2 o
theorem rw17.up {M : zM} {j : Nat} {v : Int64} : rw17 (zupL M 17 j v) M := ⟨rfl, fun _ ho => zupL_o ho⟩
theorem rw17.trans {M1 M2 M3 : zM} (h : rw17 M1 M2) (h2 : rw17 M2 M3) : rw17 M1 M3 := ⟨h.1.trans h2.1, fun o ho => (h.2 o ho).trans (h2.2 o ho)⟩
theorem s_X12_odds {post : Int32 → zM → Prop} {n k L : Nat} (hn : n ≤ 5) (hk : k ≤ 5) (hL : L ≤ 100) (h8 : M.1 1 8 = nI L) (hp : ∀ M', rw17 M' (zup M 0 0 0) → post (nI (10000 * rsN n k L (6 - k) / 100 ^ n)) M') : zCi E jX12_odds (D + 1) 0 [.ref 0, .int (nI n), .int (nI k)] M post px := by
  obtain ⟨o1, o2, o3⟩ := od_all ⟨n, by omega⟩ ⟨k, by omega⟩ ⟨L, by omega⟩
  have o2' : 10000 * rsN n k L (6 - k) < 2 ^ 63 := o2
  have p100 := pw100 hn
  refine e_X12_odds (fun M1 e1 => ?_)
  subst e1
  refine s_in_rg (a := 0) (b := 5) (fun _ => z1B (s_in_rg (a := 0) (b := 5) (fun _ => z1A (t_X12_odds_29 (s_throws0 (z0A ?_)))) (fun z => absurd (zr_of (by omega) hk (by decide)) z))) (fun z => absurd (zr_of (by omega) hn (by decide)) z)
  have k8 : ∀ M', rw17 M' (zup M 0 0 0) → M'.1 1 (8 : Int32).toNatClampNeg = nI L := fun M' hr => by rw [hr.1, zup_o (by decide)]; exact h8
  generalize hM0 : zup M 0 0 0 = M0 at *
  have e100 : (100 : Int32) - nI L = nI (100 - L) := pk_sub (a := 100) hL
  -- the sum
  have s3 : ∀ M', rw17 M' M0 → (∀ i, i < 6 → M'.2 17 i = lN (rwN L n i)) → w_X12_odds_167 E D post px (lN (100 ^ n)) 0 (nI k) M' := fun M' hr hw => by
    have key := zup_loop (fun j => w_X12_odds_167 E D post px (lN (100 ^ n)) (lN (rsN n k L j)) (nI (k + j)) M') (6 - k) (fun j hj ih => ?_) ?_ 0 (by omega)
    · exact key
    · refine t_X12_odds_167 (pk_lt 5 (k + j) (fun z => absurd z (by omega)) (fun _ => ⟨pk_in _ _ (show k + j < 6 by omega), ?_⟩))
      rw [nI_clamp (by omega), hw _ (by omega), lN_add, nI_1]
      exact ih
    · refine t_X12_odds_167 (pk_lt 5 (k + (6 - k)) (fun _ => ⟨lN_ne0 p100.1 p100.2, ?_⟩) (fun z => absurd z (by omega)))
      rw [show (10000 : Int64) = lN 10000 from rfl, lN_mul, pk_lDiv o2' p100.1 p100.2, lN_i]
      exact hp M' hr
  -- the table
  have s2 : ∀ M', rw17 M' M0 → (∀ i, i < 6 → M'.2 17 i = lN (rwN L 0 i)) → w_X12_odds_75 E D post px (nI n) (nI k) 1 0 M' := fun M' hr hw => by
    refine zup_loop (fun s => ∀ M', rw17 M' M0 → (∀ i, i < 6 → M'.2 17 i = lN (rwN L s i)) → w_X12_odds_75 E D post px (nI n) (nI k) (lN (100 ^ s)) (nI s) M') n (fun s hs ih M' hr hw => ?_) (fun M' hr hw => ?_) 0 (by omega) M' hr hw
    · refine t_X12_odds_75 (pk_le n s (fun z => absurd z (by omega)) (fun _ => ?_))
      have key := zup_loop (fun j => ∀ M2, rw17 M2 M0 → (∀ i, i < 6 → M2.2 17 i = if 6 - j ≤ i then lN (rwN L (s + 1) i) else lN (rwN L s i)) → w_X12_odds_84 E D post px (nI n) (nI k) (lN (100 ^ s)) (nI s) (nI (6 - j) - 1) M2) 6 (fun j hj ihj M2 r2 w2 => ?_) (fun M2 r2 w2 => ?_) 0 (by omega) M' hr (fun i hi => by rw [if_neg (by omega)]; exact hw i hi)
      · exact key
      · rw [show 6 - j = (5 - j) + 1 by omega, nI_pred]
        have h141 : ∀ a b : Nat, a + b = rwN L (s + 1) (5 - j) → w_X12_odds_141 E D post px (nI n) (nI k) (lN (100 ^ s)) (nI s) (nI (5 - j)) (lN b) (lN a) (nI (5 - j)) M2 := fun a b hab => t_X12_odds_141 ⟨pk_in _ _ (show 5 - j < 6 by omega), fun M3 e3 => by
          rw [nI_clamp (by omega), lN_add, hab] at e3
          rw [show nI (5 - j) + -1 = nI (6 - (j + 1)) - 1 by rw [show 6 - (j + 1) = 5 - j by omega]; exact (Int32.sub_eq_add_neg _ 1).symm]
          refine ihj M3 (by rw [e3]; exact rw17.up.trans r2) (fun i hi => ?_)
          by_cases ci : i = 5 - j
          · rw [ci, e3, zupL_s, if_pos (by omega)]
          · rw [e3, zupL_n (Or.inr ci), w2 i hi]
            by_cases c2 : 6 - j ≤ i
            · rw [if_pos c2, if_pos (by omega)]
            · rw [if_neg c2, if_neg (by omega)]⟩
        have old : M2.2 17 (5 - j) = lN (rwN L s (5 - j)) := by rw [w2 _ (by omega), if_neg (by omega)]
        refine t_X12_odds_84 ⟨fun z => absurd z (nI_pos (by omega)), fun _ => ⟨pk_in _ _ (show 5 - j < 6 by omega), ?_⟩⟩
        rw [k8 M2 r2, e100, nI_clamp (n := 5 - j) (by omega), old, nI_l (n := 100 - L) (by omega), lN_mul]
        refine pk_eq (5 - j) 0 (fun z => ?_) (fun z => ?_) |> fun q => ⟨q.2, q.1⟩
        · refine h141 _ 0 ?_
          rw [rwN, if_pos z]
        · have old2 : M2.2 17 (5 - j - 1) = lN (rwN L s (5 - j - 1)) := by rw [w2 _ (by omega), if_neg (by omega)]
          rw [show nI (5 - j) - 1 = nI (5 - j - 1) from pk_sub (b := 1) (by omega), nI_clamp (n := 5 - j - 1) (by omega), old2, nI_l (n := L) (by omega), lN_mul]
          refine ⟨pk_in _ _ (show 5 - j - 1 < 6 by omega), h141 _ _ ?_⟩
          rw [rwN, if_neg z]
      · rw [Nat.sub_self]
        refine t_X12_odds_84 ⟨fun _ => ?_, fun z => absurd (by decide) z⟩
        rw [show (100 : Int64) = lN 100 from rfl, lN_mul, ← Nat.pow_succ, nI_1]
        exact ih M2 r2 (fun i hi => by rw [w2 i hi, if_pos (by omega)])
    · exact t_X12_odds_75 (pk_le n n (fun _ => s3 M' hr hw) (fun z => absurd z (by omega)))
  refine zup_loop (fun i => ∀ M', rw17 M' M0 → (∀ j, j < i → M'.2 17 j = lN (rwN L 0 j)) → w_X12_odds_43 E D post px (nI n) (nI k) 1 (nI i) M') 6 (fun i hi ih M' hr hw => ?_) (fun M' hr hw => ?_) 0 (by omega) M0 ⟨rfl, fun _ _ => rfl⟩ (fun j hj => absurd hj (by omega))
  · have h65 : ∀ v : Nat, v = rwN L 0 i → w_X12_odds_65 E D post px (nI n) (nI k) 1 (nI i) (lN v) (nI i) M' := fun v hv => t_X12_odds_65 ⟨pk_in i _ hi, fun M3 e3 => by
      rw [nI_clamp (by omega), hv] at e3
      rw [nI_1]
      refine ih M3 (by rw [e3]; exact rw17.up.trans hr) (fun j hj => ?_)
      by_cases cj : j = i
      · rw [cj, e3, zupL_s]
      · rw [e3, zupL_n (Or.inr cj)]; exact hw j (by omega)⟩
    refine t_X12_odds_43 (pk_lt 5 i (fun z => absurd z (by omega)) (fun _ => ?_))
    refine pk_eq i 0 (fun z => ?_) (fun z => ?_) |> fun q => ⟨q.2, q.1⟩
    · exact h65 1 (by rw [rwN, if_pos z])
    · exact h65 0 (by rw [rwN, if_neg z])
  · exact t_X12_odds_43 (pk_lt 5 6 (fun _ => s2 M' hr hw) (fun z => absurd z (by omega)))
theorem op_odds {x y : Int32} (h : Rel M) (hK : ∀ M', Rel M' → K M') : zCWi E jL_odds (D + 20) 1 [.ref 19, .int x, .int y, .ref 18] M (opR E jX12_odds (D + 20) [.ref 0, .int x, .int y] K) := by
  obtain ⟨L, hL, eL⟩ : isN (M.1 1 8) 100 := h.ok.1.2.2.2.2.2.2.2.2.1
  have c12 : M.1 61 12 = nI L := h.now.1.2.2.2.2.2.2.2.1.trans eL
  by_cases cx : zr x 0 5
  · obtain ⟨n, -, hn, rfl⟩ := cx.get (by decide) (by decide)
    by_cases cy : zr y 0 5
    · obtain ⟨k, -, hk, rfl⟩ := cy.get (by decide) (by decide)
      refine e_L_odds (s_X11_odds hn hk hL c12 (fun M4 e4 px => ?_))
      rw [n0] at e4
      subst e4
      refine s_X12_odds hn hk hL eL (fun M2 r2 => ⟨?_, fun _ => ?_, hK _ ?_⟩)
      · rw [r2.1, zup_s]
      · rw [r2.2 18 (by decide), zup_L, zupL_s]
        have := (od_all ⟨n, by omega⟩ ⟨k, by omega⟩ ⟨L, by omega⟩).2.2
        exact congrArg (fun q => (nI q).toInt64) this
      · refine h.same ((zpi_of (fun o j hi => ⟨by rw [r2.1], by rw [r2.2 o (by rintro rfl; cases hi)]⟩)).trans ((zpi_up rfl).trans (zpi_upL rfl)))
    · refine e_L_odds (e_X11_odds ⟨fun z => absurd z cx.1, fun _ => ⟨fun z => absurd z (nI_nlt hn (by decide)), fun _ => ?_⟩⟩)
      have bad : opR E jX12_odds (D + 20) [.ref 0, .int (nI n), .int y] K 1 M := fun px => e_X12_odds (fun M1 e1 => s_in_rg (a := 0) (b := 5) (fun _ => z1B (s_in_rg (a := 0) (b := 5) (fun z => absurd z cy) (fun _ => z0B (t_X12_odds_24 (t_X12_odds_29 (s_throws1 (z1B (by rw [e1]; exact bad_end h hK (by decide))))))))) (fun z => absurd cx z))
      exact ⟨fun z => t_X11_odds_18 ⟨rfl, bad⟩, fun z => ⟨fun z2 => absurd ⟨z, z2⟩ cy, fun _ => t_X11_odds_18 ⟨rfl, bad⟩⟩⟩
  · have bad : opR E jX12_odds (D + 20) [.ref 0, .int x, .int y] K 1 M := fun px => e_X12_odds (fun M1 e1 => s_in_rg (a := 0) (b := 5) (fun z => absurd z cx) (fun _ => z0A (t_X12_odds_24 (t_X12_odds_29 (s_throws1 (z1B (by rw [e1]; exact bad_end h hK (by decide))))))))
    exact e_L_odds (e_X11_odds ⟨fun z => t_X11_odds_18 ⟨rfl, bad⟩, fun z => ⟨fun _ => t_X11_odds_18 ⟨rfl, bad⟩, fun z2 => absurd ⟨z, fa_of_nlt z2⟩ cx⟩⟩)
end ODDS
