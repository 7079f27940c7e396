/-! ===== the reference's tape ===== -/
def tcR (M : zM) (b : Nat → Nat) (n : Nat) : Prop := n ≤ 400 ∧ M.1 0 11 = nI n ∧ ∀ j, j < 400 → M.1 6 j = sb (b j) ∧ b j < 256
/-- the point is p, what begins there q, and nothing else has changed -/
def rp (M' M : zM) (p q : Nat) : Prop := M'.1 0 10 = nI p ∧ M'.1 0 12 = nI q ∧ (∀ o j, ¬ (o = 0 ∧ (j = 10 ∨ j = 12)) → M'.1 o j = M.1 o j) ∧ M'.2 = M.2
theorem tcR.rp {M' M : zM} {b : Nat → Nat} {n p q : Nat} (h : tcR M b n) (r : rp M' M p q) : tcR M' b n := ⟨h.1, by rw [r.2.2.1 0 11 (by omega)]; exact h.2.1, fun j hj => by rw [r.2.2.1 6 j (by omega)]; exact h.2.2 j hj⟩
theorem rp.tr {A B C : zM} {p q p2 q2 : Nat} (h : rp A B p q) (h2 : rp B C p2 q2) : rp A C p q := ⟨h.1, h.2.1, fun o j z => (h.2.2.1 o j z).trans (h2.2.2.1 o j z), h.2.2.2.trans h2.2.2.2⟩
theorem sb_ge {x lo : Nat} (hx : x < 256) (h1 : 0 < lo) (h2 : lo < 128) : sb x < nI lo ↔ ¬ (lo ≤ x ∧ x < 128) := by
  by_cases c : x < 128
  · rw [sb_lo c, nI_ltI (by omega) (by omega)]; omega
  · have := sb_hi (by omega) hx
    refine ⟨fun _ => by omega, fun _ => ?_⟩
    rw [fa_lt] at this ⊢
    rw [nI_toInt (by omega)]
    have e0 : (0 : Int32).toInt = 0 := rfl
    omega
theorem sb_le {x hi : Nat} (hx : x < 256) (h2 : hi < 128) (hc : x < 128) : nI hi < sb x ↔ hi < x := by
  rw [sb_lo hc, nI_ltI (by omega) (by omega)]
section TAPER
variable {E : zEv} {D : Nat} {px : String → zM → Prop} {M : zM} {b : Nat → Nat} {n p q : Nat}
theorem s_X12_isAt {post : Int32 → zM → Prop} {lo hi : Nat} {x y : Int32} (hx : x = nI lo) (hy : y = nI hi) (h1 : 0 < lo) (h2 : lo ≤ hi) (h3 : hi < 128) (ht : tcR M b n) (hp : M.1 0 10 = nI p) (hpn : p ≤ n) (k1 : p < n → lo ≤ b p → b p ≤ hi → post 1 M) (k0 : ¬ (p < n ∧ lo ≤ b p ∧ b p ≤ hi) → post 0 M) : zCi E jX12_isAt D 0 [.ref 0, .int x, .int y] M post px := by
  have n4 := ht.1
  refine e_X12_isAt (pk_le n p (fun z => t_X12_isAt_41 (t_X12_isAt_42 ⟨Or.inl rfl, k0 (fun a => by omega)⟩)) (fun z => ?_) ht.2.1 hp)
  have hb := ht.2.2 p (by omega)
  have e6 : M.1 6 (M.1 0 10).toNatClampNeg = sb (b p) := by rw [hp, nI_clamp (by omega)]; exact hb.1
  have iv : vp_in (M.1 0 10) 400 := pk_in p _ (by omega) hp
  rw [e6, hx, hy, sb_ge hb.2 h1 (by omega)]
  refine ⟨iv, fun a => t_X12_isAt_41 (t_X12_isAt_42 ⟨Or.inl rfl, k0 (fun c => a ⟨c.2.1, by omega⟩)⟩), fun a => ?_⟩
  have a' : lo ≤ b p ∧ b p < 128 := Decidable.not_not.mp a
  rw [sb_le hb.2 h3 a'.2]
  exact ⟨iv, fun c => t_X12_isAt_41 (t_X12_isAt_42 ⟨Or.inl rfl, k0 (fun d => by omega)⟩), fun c => t_X12_isAt_42 ⟨Or.inr rfl, k1 z a'.1 (by omega)⟩⟩
theorem s_X12_blanks {post : zM → Prop} (ht : tcR M b n) (hp : M.1 0 10 = nI p) (hpn : p ≤ n) (hq : ∀ M', rp M' M (tb b n p) (tb b n p) → post M') : zCv E jX12_blanks (D + 1) 0 [.ref 0] M post px := by
  generalize hQ : tb b n p = q at *
  have key := sc_ind (p := isB b) (n := n) (fun i => i ≤ n → tb b n i = q → ∀ M', M'.1 0 10 = nI i → (∀ o j, ¬ (o = 0 ∧ j = 10) → M'.1 o j = M.1 o j) → M'.2 = M.2 → w_X12_blanks_0 E D post px M') (fun i hi hpi ih h1 h2 M' a1 a2 a3 => ?_) (fun i hd h1 h2 M' a1 a2 a3 => ?_)
  · exact e_X12_blanks (key p hpn hQ M hp (fun _ _ _ => rfl) rfl)
  · have t' : tcR M' b n := ⟨ht.1, by rw [a2 0 11 (by omega)]; exact ht.2.1, fun j hj => by rw [a2 6 j (by omega)]; exact ht.2.2 j hj⟩
    have c := isB_t.mp hpi
    refine t_X12_blanks_0 (s_X12_isAt (lo := 32) (hi := 32) rfl rfl (by decide) (by decide) (by decide) t' a1 h1 (fun _ _ _ => z1B (fun M9 e9 => ?_)) (fun z => absurd ⟨hi, by omega, by omega⟩ z))
    rw [a1, nI_1] at e9
    exact ih (by omega) (by rw [← h2]; exact (sc_y hi hpi).symm) M9 (by rw [e9, zup_s]) (fun o j z => by rw [e9, zup_n (by omega)]; exact a2 o j z) (by rw [e9]; exact a3)
  · have t' : tcR M' b n := ⟨ht.1, by rw [a2 0 11 (by omega)]; exact ht.2.1, fun j hj => by rw [a2 6 j (by omega)]; exact ht.2.2 j hj⟩
    have ei : i = q := by rw [← h2]; exact (sc_n hd).symm
    refine t_X12_blanks_0 (s_X12_isAt (lo := 32) (hi := 32) rfl rfl (by decide) (by decide) (by decide) t' a1 h1 (fun z1 z2 z3 => absurd (show b i = 32 by omega) (isB_f.mp (hd z1))) (fun z => z0A (fun M7 e7 => hq M7 ⟨?_, ?_, fun o j c => ?_, ?_⟩)))
    · rw [e7, zup_n (Or.inr (by decide)), a1, ei]
    · rw [e7, zup_s, a1, ei]
    · rw [e7, zup_n (by omega)]; exact a2 o j (by omega)
    · rw [e7]; exact a3
theorem s_X12_letters {post : zM → Prop} (ht : tcR M b n) (hp : M.1 0 10 = nI p) (hpn : p ≤ n) (hq : ∀ M', rp M' M (wE b n (tb b n p)) (tb b n p) → post M') : zCv E jX12_letters (D + 2) 0 [.ref 0] M post px := by
  refine e_X12_letters (s_X12_blanks ht hp hpn (fun M1 r1 => ?_))
  have q4 := tb_hi (b := b) hpn
  generalize hQ : tb b n p = q at *
  have key := sc_ind (p := isL b) (n := n) (fun i => i ≤ n → wE b n i = wE b n q → ∀ M', rp M' M i q → w_X12_letters_4 E (D + 1) post px M') (fun i hi hpi ih h1 h2 M' r => ?_) (fun i hd h1 h2 M' r => ?_)
  · exact key q q4 rfl M1 r1
  · have c := isL_t.mp hpi
    refine t_X12_letters_4 (s_X12_isAt (lo := 97) (hi := 122) rfl rfl (by decide) (by decide) (by decide) (ht.rp r) r.1 h1 (fun _ _ _ => z1B (fun M9 e9 => ?_)) (fun z => absurd ⟨hi, c⟩ z))
    rw [r.1, nI_1] at e9
    exact ih (by omega) (by rw [← h2]; exact (sc_y hi hpi).symm) M9 ⟨by rw [e9, zup_s], by rw [e9, zup_n (Or.inr (by decide))]; exact r.2.1, fun o j z => by rw [e9, zup_n (by omega)]; exact r.2.2.1 o j z, by rw [e9]; exact r.2.2.2⟩
  · have ei : wE b n q = i := by rw [← h2]; exact sc_n hd
    rw [ei] at hq
    exact t_X12_letters_4 (s_X12_isAt (lo := 97) (hi := 122) rfl rfl (by decide) (by decide) (by decide) (ht.rp r) r.1 h1 (fun z1 z2 z3 => absurd ⟨z2, z3⟩ (isL_f.mp (hd z1))) (fun z => z0A (hq M' r)))
theorem s_X12_isWord {post : Int32 → zM → Prop} {w : Nat} (hw : w < zLitN) (ht : tcR M b n) (hp : M.1 0 10 = nI (wE b n q)) (hq : M.1 0 12 = nI q) (hn : q ≤ n) (h1 : wdP b n q w → post 1 M) (h0 : ¬ wdP b n q w → post 0 M) : zCi E jX12_isWord (D + 4) 0 [.ref 0, .ref (271 + w)] M post px := by
  have n4 := ht.1
  have l60 := (zLit_ok w hw).2.1
  have w1 := wE_le (b := b) (n := n) (p := q)
  have w2 := wE_hi (b := b) hn
  have no : ∀ i, ¬ wdP b n q w → w_X12_isWord_24 E (D + 3) post px w 0 i M := fun i z => t_X12_isWord_24 (z0A (t_X12_isWord_67 ⟨Or.inl rfl, h0 z⟩))
  refine e_X12_isWord ⟨hw, s_length hw ?_⟩
  rw [hp, hq, pk_sub w1]
  by_cases c : wE b n q - q = zLitL.getD w 0
  · rw [c]
    refine ⟨fun z => absurd rfl z, fun _ => t_X12_isWord_21 ?_⟩
    have key := zup_loop (fun i => (∀ j, j < i → nI (b (q + j)) = zCh w j) → w_X12_isWord_24 E (D + 3) post px w 1 (nI i) M) (zLitL.getD w 0) (fun i hi ih ha => ?_) (fun ha => ?_) 0 (by omega)
    · exact key (fun j hj => absurd hj (by omega))
    · refine t_X12_isWord_24 (z1B ⟨hw, s_length hw (pk_le (zLitL.getD w 0) i (fun z => absurd z (by omega)) (fun _ => ?_))⟩)
      have e3 : M.1 0 12 + nI i = nI (q + i) := by rw [hq, nI_add]
      have lt := wE_let (b := b) (n := n) (q := q) (i := i) (by omega)
      have h6 := ht.2.2 (q + i) (by omega)
      rw [e3]
      refine ⟨pk_in (q + i) _ (by omega), hw, s_charAt hw (pk_in i _ hi) (nI_lt hi (by omega)) ?_⟩
      rw [nI_clamp (n := q + i) (by omega), nI_clamp (n := i) (by omega), h6.1, sb_lo (by omega)]
      refine ⟨fun a => t_X12_isWord_60 (no _ (fun z => a (z.2 i hi))), fun a => t_X12_isWord_60 ?_⟩
      rw [nI_1]
      refine ih (fun j hj => ?_)
      by_cases c3 : j = i
      · rw [c3]; exact a
      · exact ha j (by omega)
    · exact t_X12_isWord_24 (z1B ⟨hw, s_length hw (pk_le (zLitL.getD w 0) (zLitL.getD w 0) (fun _ => t_X12_isWord_67 ⟨Or.inr rfl, h1 ⟨by omega, ha⟩⟩) (fun z => absurd z (by omega)))⟩)
  · have z : ¬ wdP b n q w := fun a => c (by have := a.1; omega)
    exact ⟨fun _ => t_X12_isWord_21 (no _ z), fun a => absurd ((nI_eq (by omega) (by omega)).mp a) c⟩
theorem s_X12_passes {post : Int32 → zM → Prop} {w : Nat} (hw : w < zLitN) (ht : tcR M b n) (hp : M.1 0 10 = nI p) (hpn : p ≤ n) (hq : tb b n p = q) (h1 : wdP b n q w → ∀ M', rp M' M (wE b n q) q → post 1 M') (h0 : ¬ wdP b n q w → ∀ M', rp M' M q q → post 0 M') : zCi E jX12_passes (D + 5) 0 [.ref 0, .ref (271 + w)] M post px := by
  subst hq
  refine e_X12_passes (s_X12_letters ht hp hpn (fun M1 r1 => s_X12_isWord hw (ht.rp r1) r1.1 r1.2.1 (tb_hi hpn) (fun z => z1B (h1 z M1 r1)) (fun z => z0A (fun M9 e9 => h0 z M9 ⟨?_, ?_, fun o j c => ?_, ?_⟩))))
  · rw [e9, zup_s]; exact r1.2.1
  · rw [e9, zup_n (Or.inr (by decide))]; exact r1.2.1
  · rw [e9, zup_n (by omega)]; exact r1.2.2.1 o j c
  · rw [e9]; exact r1.2.2.2
theorem s_X12_sign {post : Int32 → zM → Prop} {c : Nat} {x : Int32} (hx : x = nI c) (hc : 0 < c ∧ c < 128) (ht : tcR M b n) (hp : M.1 0 10 = nI p) (hpn : p ≤ n) (hq : tb b n p = q) (h1 : sgP b n q c → ∀ M', rp M' M (q + 1) q → post 1 M') (h0 : ¬ sgP b n q c → ∀ M', rp M' M q q → post 0 M') : zCi E jX12_sign (D + 2) 0 [.ref 0, .int x] M post px := by
  subst hq
  refine e_X12_sign (s_X12_blanks ht hp hpn (fun M1 r1 => s_X12_isAt (lo := c) (hi := c) hx hx hc.1 (Nat.le_refl c) hc.2 (ht.rp r1) r1.1 (tb_hi hpn) (fun z1 z2 z3 => z1A (fun M9 e9 => h1 ⟨z1, by omega⟩ M9 ⟨?_, ?_, fun o j k => ?_, ?_⟩)) (fun z => z0B (h0 (fun a => z ⟨a.1, by omega, by omega⟩) M1 r1))))
  · rw [e9, zup_s, r1.1, nI_1]
  · rw [e9, zup_n (Or.inr (by decide))]; exact r1.2.1
  · rw [e9, zup_n (by omega)]; exact r1.2.2.1 o j k
  · rw [e9]; exact r1.2.2.2
def nuI (o : Option Nat) : Int32 := match o with | some v => nI v | none => -1
theorem s_X12_number {post : Int32 → zM → Prop} {lo hi : Nat} {x y : Int32} (hx : x = nI lo) (hy : y = nI hi) (hh : lo < 2 ^ 30 ∧ hi < 2 ^ 30) (ht : tcR M b n) (hp : M.1 0 10 = nI p) (hpn : p ≤ n) (hq : tb b n p = q) (h1 : ∀ M', rp M' M (dE b n q) q → post (nuI (nuF b n q lo hi)) M') : zCi E jX12_number (D + 2) 0 [.ref 0, .int x, .int y] M post px := by
  have q4 := tb_hi (b := b) hpn
  have n4 := ht.1
  refine e_X12_number (s_X12_blanks ht hp hpn (fun M1 r1 => ?_))
  rw [hq] at r1 q4
  have d1 := dE_le (b := b) (n := n) (p := q)
  have d2 := dE_hi (b := b) q4
  have key := zup_loop (fun i => ∀ M', rp M' M (q + i) q → w_X12_number_6 E (D + 1) post px x y (nI (nuV b q (min i 3))) M') (dE b n q - q) (fun i hi' ih M' r => ?_) (fun M' r => ?_) 0 (by omega)
  · exact key M1 r1
  · have c := dE_dig (b := b) (n := n) (q := q) (i := i) (by omega)
    refine t_X12_number_6 (s_X12_isAt (lo := 48) (hi := 57) rfl rfl (by decide) (by decide) (by decide) (ht.rp r) r.1 (by omega) (fun _ _ _ => z1B ?_) (fun z => absurd ⟨by omega, c⟩ z))
    have e : M'.1 0 10 - M'.1 0 12 = nI i := by rw [r.1, r.2.1, pk_sub (by omega), show q + i - q = i by omega]
    have go : ∀ v, v = nI (nuV b q (min (i + 1) 3)) → w_X12_number_51 E (D + 1) post px x y v M' := fun v hv => t_X12_number_51 (fun M9 e9 => by
      rw [r.1, nI_1] at e9
      rw [hv]
      exact ih M9 ⟨by rw [e9, zup_s]; rfl, by rw [e9, zup_n (Or.inr (by decide))]; exact r.2.1, fun o j z => by rw [e9, zup_n (by omega)]; exact r.2.2.1 o j z, by rw [e9]; exact r.2.2.2⟩)
    refine pk_le 3 i (fun z => go _ (by rw [show min i 3 = 3 by omega, show min (i + 1) 3 = 3 by omega])) (fun z => ⟨pk_in (q + i) _ (by omega) r.1, go _ ?_⟩) rfl e
    have t' := (ht.rp r).2.2 (q + i) (by omega)
    rw [r.1, nI_clamp (n := q + i) (by omega), t'.1, sb_lo (by omega), show min i 3 = i by omega, show min (i + 1) 3 = i + 1 by omega, show (10 : Int32) = nI 10 from rfl, pk_mul, nI_add, show (48 : Int32) = nI 48 from rfl, pk_sub (by omega)]
    rfl
  · have eD : q + (dE b n q - q) = dE b n q := by omega
    rw [eD] at r
    refine t_X12_number_6 (s_X12_isAt (lo := 48) (hi := 57) rfl rfl (by decide) (by decide) (by decide) (ht.rp r) r.1 d2 (fun z1 z2 z3 => absurd ⟨z2, z3⟩ (isD_f.mp (sc_out q z1))) (fun _ => z0A ?_))
    have no : nuF b n q lo hi = none → w_X12_number_99 E (D + 1) post px M' := fun z => t_X12_number_99 (t_X12_number_104 (by have := h1 M' r; rw [z] at this; exact this))
    refine pk_eq (dE b n q) q (fun z => no (if_neg (fun a => by omega))) (fun z => ?_) r.1 r.2.1
    have e : M'.1 0 10 - M'.1 0 12 = nI (dE b n q - q) := by rw [r.1, r.2.1, pk_sub d1]
    refine pk_lt 3 (dE b n q - q) (fun a => no (if_neg (fun c => by omega))) (fun a => ?_) rfl e
    have v9 := nuV_999 (b := b) (n := n) (q := q) (k := dE b n q - q) (by omega) (by omega)
    rw [show min (dE b n q - q) 3 = dE b n q - q by omega]
    refine pk_lt (nuV b q (dE b n q - q)) lo (fun c => no (if_neg (fun f => by omega))) (fun c => pk_le (nuV b q (dE b n q - q)) hi (fun c2 => t_X12_number_104 ?_) (fun c2 => no (if_neg (fun f => by omega))) rfl hy) rfl hx
    have := h1 M' r
    rw [show nuF b n q lo hi = some (nuV b q (dE b n q - q)) from if_pos ⟨by omega, by omega, c, c2⟩] at this
    exact this
def nfI (s : Sum Nat (Nat × Nat)) : Int32 := match s with | .inr r => nI r.2 | .inl _ => -1
/-- where the point stands behind it, where what is wrong begins -/
theorem s_X12_behind {post : Int32 → zM → Prop} {w lo hi : Nat} {x y : Int32} (hx : x = nI lo) (hy : y = nI hi) (hh : lo < 2 ^ 30 ∧ hi < 2 ^ 30) (hw : w < zLitN) (ht : tcR M b n) (hp : M.1 0 10 = nI p) (hpn : p ≤ n) (hq : tb b n p = q) (h1 : ∀ r, nfF b n q w lo hi = .inr r → ∀ M' p' q', rp M' M p' q' → p' ≤ n → tb b n p' = r.1 → post (nI r.2) M') (h0 : ∀ e, nfF b n q w lo hi = .inl e → ∀ M' p', rp M' M p' e → post (-1) M') : zCi E jX12_behind (D + 5) 0 [.ref 0, .ref (271 + w), .int x, .int y] M post px := by
  have q4 := tb_hi (b := b) hpn
  refine e_X12_behind (s_X12_letters ht hp hpn (fun M1 r1 => ?_))
  rw [hq] at r1 q4
  have w2 := wE_hi (b := b) q4
  refine s_X12_isWord hw (ht.rp r1) r1.1 r1.2.1 q4 (fun z => z1B ?_) (fun z => z0A (t_X12_behind_22 (h0 q (nf_no z) M1 _ r1)))
  refine s_X12_number hx hy hh (ht.rp r1) r1.1 w2 rfl (fun M2 r2 => t_X12_behind_22 ?_)
  have r3 := r2.tr r1
  have t4 := tb_hi (b := b) w2
  cases hv : nuF b n (tb b n (wE b n q)) lo hi with
  | none => exact h0 _ (nf_none z hv) M2 _ r3
  | some v => exact h1 _ (nf_some z hv) M2 _ _ r3 (dE_hi t4) rfl
/-- a number behind a word that may stand there -/
def toF (b : Nat → Nat) (n q w : Nat) : Sum Nat (Nat × Nat) := if wdP b n q w then nfF b n q w 0 99 else .inr (q, 0)
theorem s_X12_told {post : Int32 → zM → Prop} {w : Nat} (hw : w < zLitN) (ht : tcR M b n) (hp : M.1 0 10 = nI p) (hpn : p ≤ n) (hq : tb b n p = q) (h1 : ∀ r, toF b n q w = .inr r → ∀ M' p' q', rp M' M p' q' → p' ≤ n → tb b n p' = r.1 → post (nI r.2) M') (h0 : ∀ e, toF b n q w = .inl e → ∀ M' p', rp M' M p' e → post (-1) M') : zCi E jX12_told (D + 6) 0 [.ref 0, .ref (271 + w)] M post px := by
  have q4 := tb_hi (b := b) hpn
  have qq : tb b n q = q := by rw [← hq]; exact tb_tb
  rw [hq] at q4
  have w2 := wE_hi (b := b) q4
  refine e_X12_told (s_X12_passes hw ht hp hpn hq (fun z M1 r1 => z1B ?_) (fun z M1 r1 => z0A (t_X12_told_19 (h1 (q, 0) (if_neg z) M1 _ _ r1 q4 qq))))
  refine s_X12_number (lo := 0) (hi := 99) rfl rfl (by decide) (ht.rp r1) r1.1 w2 rfl (fun M2 r2 => t_X12_told_19 ?_)
  have r3 := r2.tr r1
  have t4 := tb_hi (b := b) w2
  have eT : toF b n q w = nfF b n q w 0 99 := if_pos z
  cases hv : nuF b n (tb b n (wE b n q)) 0 99 with
  | none => exact h0 _ (eT.trans (nf_none z hv)) M2 _ r3
  | some v => exact h1 _ (eT.trans (nf_some z hv)) M2 _ _ r3 (dE_hi t4) rfl
def leI (o : Option Nat) : Int32 := match o with | some v => nI v | none => 0
theorem s_X12_lettersTold {post : Int32 → zM → Prop} {m : Nat} {x : Int32} (hx : x = nI m) (hm : m ≤ 6) (ht : tcR M b n) (hp : M.1 0 10 = nI p) (hpn : p ≤ n) (hq : tb b n p = q) (h1 : ∀ M', rp M' M (wE b n q) q → post (leI (letF b n q m)) M') : zCi E jX12_lettersTold (D + 3) 0 [.ref 0, .int x] M post px := by
  have q4 := tb_hi (b := b) hpn
  have n4 := ht.1
  refine e_X12_lettersTold (s_X12_letters ht hp hpn (fun M1 r1 => ?_))
  rw [hq] at r1 q4
  have w1 := wE_le (b := b) (n := n) (p := q)
  have w2 := wE_hi (b := b) q4
  have P1 := h1 M1 r1
  have no : letF b n q m = none → ∀ y, w_X12_lettersTold_96 E (D + 2) post px y 0 M1 := fun z y => t_X12_lettersTold_96 (z0A (t_X12_lettersTold_105 (by rw [z] at P1; exact P1)))
  refine pk_le (wE b n q) q (fun z => t_X12_lettersTold_22 ?_) (fun c => t_X12_lettersTold_22 ?_) r1.1 r1.2.1
  · rw [r1.2.1]
    exact t_X12_lettersTold_29 (pk_le (wE b n q) q (fun _ => no (if_neg (by omega)) _) (fun c => absurd c (by omega)) r1.1)
  · rw [r1.2.1]
    have eF : letF b n q m = leF b q m (wE b n q - q) := if_pos c
    have key := zup_loop (fun i => ∀ s, leF b q m i = some s → w_X12_lettersTold_29 E (D + 2) post px x (nI s) 1 (nI (q + i)) M1) (wE b n q - q) (fun i hi ih s hs => ?_) (fun s hs => ?_) 0 (by omega)
    · exact key 0 rfl
    · have dg := wE_let (b := b) (n := n) (q := q) (i := i) (by omega)
      have h6 := (ht.rp r1).2.2 (q + i) (by omega)
      have bad : ¬ (b (q + i) - 97 < m ∧ s.testBit (b (q + i) - 97) = false) → letF b n q m = none := fun q0 => by
        rw [eF, show wE b n q - q = (i + 1) + (wE b n q - q - (i + 1)) by omega]
        refine leF_none ?_ _
        unfold leF
        rw [hs]
        exact if_neg q0
      refine t_X12_lettersTold_29 (pk_le (wE b n q) (q + i) (fun z => absurd z (by omega)) (fun _ => z1B ⟨pk_in (q + i) _ (by omega), ?_⟩) r1.1)
      have ev : M1.1 6 (nI (q + i)).toNatClampNeg - 97 = nI (b (q + i) - 97) := by
        rw [nI_clamp (n := q + i) (by omega), h6.1, sb_lo (by omega), show (97 : Int32) = nI 97 from rfl, pk_sub dg.1]
      rw [ev]
      have t32 : b (q + i) - 97 < 32 := by omega
      have stop : ∀ y2 y5, letF b n q m = none → w_X12_lettersTold_73 E (D + 2) post px x y2 (nI (q + i)) y5 M1 := fun y2 y5 z => t_X12_lettersTold_73 (t_X12_lettersTold_74 (z0A (t_X12_lettersTold_88 (t_X12_lettersTold_29 (by
        rw [nI_1]
        exact pk_le (wE b n q) (q + i + 1) (fun _ => no z _) (fun _ => z0A (no z _)) r1.1)))))
      refine pk_le m (b (q + i) - 97) (fun z => stop _ _ (bad (fun a => by omega))) (fun cm => ?_) hx
      refine s_X12_has ?_
      by_cases tb' : s.testBit (b (q + i) - 97) = true
      · rw [if_pos ((has_N t32).mpr tb')]
        exact z1A (stop _ _ (bad (fun a => by rw [tb'] at a; cases a.2)))
      · rw [if_neg (fun z => tb' ((has_N t32).mp z))]
        refine z0B (t_X12_lettersTold_74 (z1B (t_X12_lettersTold_88 ?_)))
        rw [or_N t32, nI_1]
        refine ih _ ?_
        unfold leF
        rw [hs]
        exact if_pos ⟨cm, Bool.eq_false_iff.mpr tb'⟩
    · refine t_X12_lettersTold_29 (pk_le (wE b n q) (q + (wE b n q - q)) (fun _ => t_X12_lettersTold_96 (z1B (t_X12_lettersTold_105 ?_))) (fun z => absurd z (by omega)) r1.1)
      rw [eF, hs] at P1
      exact P1
end TAPER
