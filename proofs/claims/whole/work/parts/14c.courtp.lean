/-! ===== a court's text, as functions ===== -/
abbrev zRc : Type := Sum Nat (Nat × zRow)
section COURTP
variable (b : Nat → Nat) (n : Nat)
def pWit (q : Nat) (f : zRow) : zRc := match nfF b n q 1 0 9 with
  | .inl e => .inl e
  | .inr r1 => match nfF b n r1.1 2 0 9 with
    | .inl e => .inl e
    | .inr r2 => match toF b n r2.1 3 with
      | .inl e => .inl e
      | .inr r3 => match toF b n r3.1 4 with
        | .inl e => .inl e
        | .inr r4 => .inr (r4.1, nwF f r1.2 r2.2 r3.2 r4.2)
/-- touches .., so -/
def pTou (q m : Nat) : Sum Nat (Nat × Nat) := if wdP b n q 7 then (match letF b n (tb b n (wE b n q)) m with
  | none => .inl (tb b n (wE b n q))
  | some s => .inr (tb b n (wE b n (tb b n (wE b n q))), s)) else .inr (q, 0)
def pSo (q : Nat) : Nat × Nat := if wdP b n q 8 then (tb b n (wE b n q), 1) else (q, 0)
def pThg (q : Nat) (f : zRow) : zRc := match nfF b n q 6 1 9 with
  | .inl e => .inl e
  | .inr r1 => match pTou b n r1.1 (wN f) with
    | .inl e => .inl e
    | .inr r2 => .inr ((pSo b n r2.1).1, ntF f r1.2 r2.2 (pSo b n r2.1).2)
def pAsk (q : Nat) (f : zRow) : zRc := match letF b n q (tN f) with
  | none => .inl q
  | some s => .inr (tb b n (wE b n q), nqF f s)
def pWom (q : Nat) (f : zRow) : zRc := match nfF b n q 11 1 20 with
  | .inl e => .inl e
  | .inr r1 => .inr (r1.1, nkF f r1.2)
def pNum (i hi q : Nat) (f : zRow) : zRc := match nuF b n q 0 hi with
  | none => .inl q
  | some v => .inr (tb b n (dE b n q), upd f i (nI v))
def pCl (q : Nat) (f : zRow) : zRc :=
  if wdP b n q 0 then (if wN f = 5 then .inl q else pWit b n (tb b n (wE b n q)) f)
  else if wdP b n q 5 then (if tN f = 6 then .inl q else pThg b n (tb b n (wE b n q)) f)
  else if wdP b n q 9 then (if qN f = 8 then .inl q else pAsk b n (tb b n (wE b n q)) f)
  else if wdP b n q 10 then (if kN f = 4 then .inl q else pWom b n (tb b n (wE b n q)) f)
  else if wdP b n q 12 then pNum b n 7 9 (tb b n (wE b n q)) f
  else if wdP b n q 13 then pNum b n 8 100 (tb b n (wE b n q)) f
  else if wdP b n q 14 then pNum b n 9 100 (tb b n (wE b n q)) f
  else if wdP b n q 15 then pNum b n 6 999 (tb b n (wE b n q)) f
  else .inl q
def pCtL : Nat → Nat → zRow → Sum Nat zRow
  | 0, q, _ => .inl q
  | k + 1, q, f => match pCl b n q f with
    | .inl e => .inl e
    | .inr r => if r.1 = n then .inr r.2 else if sgP b n r.1 59 then pCtL k (tb b n (r.1 + 1)) r.2 else .inl r.1
def pCourt (f : zRow) : Sum Nat zRow := if tb b n 0 = n then .inr f else pCtL b n 14 (tb b n 0) f
end COURTP
section COURTG
variable {b : Nat → Nat} {n : Nat}
/-- a piece of a court's text: where it ends; what it leaves is a court -/
def gCt (b : Nat → Nat) (n q : Nat) (f : zRow) (A : zRc) : Prop := (∀ e, A = .inl e → e ≤ n) ∧ ∀ r, A = .inr r → nbl b n r.1 ∧ q ≤ r.1 ∧ okF r.2 ∧ frm r.2 f
theorem to_p {q w : Nat} (hq : nbl b n q) (hl : 0 < zLitL.getD w 0) : (∀ e, toF b n q w = .inl e → e ≤ n) ∧ ∀ r, toF b n q w = .inr r → nbl b n r.1 ∧ q ≤ r.1 ∧ r.2 ≤ 99 := by
  by_cases y : wdP b n q w
  · have e0 : toF b n q w = nfF b n q w 0 99 := if_pos y
    rw [e0]
    obtain ⟨g1, g2⟩ := nf_p (lo := 0) (hi := 99) hq hl
    refine ⟨g1, fun r hr => ?_⟩
    obtain ⟨a1, a2, a3, a4⟩ := g2 r hr
    exact ⟨a1, by omega, a4⟩
  · have e0 : toF b n q w = .inr (q, 0) := if_neg y
    rw [e0]
    refine ⟨fun e he => (by cases he), fun r hr => ?_⟩
    rw [← Sum.inr.inj hr]
    exact ⟨hq, Nat.le_refl q, Nat.zero_le _⟩
theorem tou_p {q m : Nat} (hq : nbl b n q) : (∀ e, pTou b n q m = .inl e → e ≤ n) ∧ ∀ r, pTou b n q m = .inr r → nbl b n r.1 ∧ q ≤ r.1 ∧ r.2 < 2 ^ m := by
  unfold pTou
  by_cases y : wdP b n q 7
  · rw [if_pos y]
    obtain ⟨n1, t1⟩ := wd_nx hq (by decide) y
    cases hl : letF b n (tb b n (wE b n q)) m with
    | none =>
      refine ⟨fun e he => ?_, fun r hr => by cases hr⟩
      rw [← Sum.inl.inj he]; exact n1.1
    | some s =>
      have f := letF_some hl
      have t2 := tb_le (b := b) (n := n) (p := wE b n (tb b n (wE b n q)))
      refine ⟨fun e he => (by cases he), fun r hr => ?_⟩
      have e : (tb b n (wE b n (tb b n (wE b n q))), s) = r := Sum.inr.inj hr
      subst e
      exact ⟨nbl_tb (wE_hi n1.1), by show q ≤ tb b n (wE b n (tb b n (wE b n q))); omega, f.2.2⟩
  · rw [if_neg y]
    refine ⟨fun e he => (by cases he), fun r hr => ?_⟩
    rw [← Sum.inr.inj hr]
    exact ⟨hq, Nat.le_refl q, Nat.two_pow_pos m⟩
theorem so_p {q : Nat} (hq : nbl b n q) : nbl b n (pSo b n q).1 ∧ q ≤ (pSo b n q).1 ∧ (pSo b n q).2 ≤ 1 := by
  unfold pSo
  by_cases y : wdP b n q 8
  · rw [if_pos y]
    obtain ⟨n1, t1⟩ := wd_nx hq (by decide) y
    exact ⟨n1, by show q ≤ tb b n (wE b n q); omega, Nat.le_refl 1⟩
  · rw [if_neg y]
    exact ⟨hq, Nat.le_refl q, Nat.zero_le _⟩
theorem wit_p {q : Nat} {f : zRow} (hk : okF f) (h : wN f < 5) (hq : nbl b n q) : gCt b n q f (pWit b n q f) := by
  obtain ⟨g1, g2⟩ := nf_p (w := 1) (lo := 0) (hi := 9) hq (by decide)
  unfold pWit
  cases h1 : nfF b n q 1 0 9 with
  | inl e => exact ⟨fun e' he => by rw [← Sum.inl.inj he]; exact g1 e h1, fun r hr => by cases hr⟩
  | inr r1 =>
    obtain ⟨a1, a2, a3, a4⟩ := g2 r1 h1
    obtain ⟨g3, g4⟩ := nf_p (w := 2) (lo := 0) (hi := 9) a1 (by decide)
    show gCt b n q f (match nfF b n r1.1 2 0 9 with | .inl e => .inl e | .inr r2 => match toF b n r2.1 3 with | .inl e => .inl e | .inr r3 => match toF b n r3.1 4 with | .inl e => .inl e | .inr r4 => .inr (r4.1, nwF f r1.2 r2.2 r3.2 r4.2))
    cases h2 : nfF b n r1.1 2 0 9 with
    | inl e => exact ⟨fun e' he => by rw [← Sum.inl.inj he]; exact g3 e h2, fun r hr => by cases hr⟩
    | inr r2 =>
      obtain ⟨b1, b2, b3, b4⟩ := g4 r2 h2
      obtain ⟨g5, g6⟩ := to_p (w := 3) b1 (by decide)
      show gCt b n q f (match toF b n r2.1 3 with | .inl e => .inl e | .inr r3 => match toF b n r3.1 4 with | .inl e => .inl e | .inr r4 => .inr (r4.1, nwF f r1.2 r2.2 r3.2 r4.2))
      cases h3 : toF b n r2.1 3 with
      | inl e => exact ⟨fun e' he => by rw [← Sum.inl.inj he]; exact g5 e h3, fun r hr => by cases hr⟩
      | inr r3 =>
        obtain ⟨c1, c2, c3⟩ := g6 r3 h3
        obtain ⟨g7, g8⟩ := to_p (w := 4) c1 (by decide)
        show gCt b n q f (match toF b n r3.1 4 with | .inl e => .inl e | .inr r4 => .inr (r4.1, nwF f r1.2 r2.2 r3.2 r4.2))
        cases h4 : toF b n r3.1 4 with
        | inl e => exact ⟨fun e' he => by rw [← Sum.inl.inj he]; exact g7 e h4, fun r hr => by cases hr⟩
        | inr r4 =>
          obtain ⟨d1, d2, d3⟩ := g8 r4 h4
          refine ⟨fun e he => (by cases he), fun r hr => ?_⟩
          have e : (r4.1, nwF f r1.2 r2.2 r3.2 r4.2) = r := Sum.inr.inj hr
          subst e
          exact ⟨d1, by show q ≤ r4.1; omega, ok_nw hk h a4 b4 c3 d3⟩
theorem thg_p {q : Nat} {f : zRow} (hk : okF f) (h : tN f < 6) (hq : nbl b n q) : gCt b n q f (pThg b n q f) := by
  have w5 := hk.w.2
  obtain ⟨g1, g2⟩ := nf_p (w := 6) (lo := 1) (hi := 9) hq (by decide)
  unfold pThg
  cases h1 : nfF b n q 6 1 9 with
  | inl e => exact ⟨fun e' he => by rw [← Sum.inl.inj he]; exact g1 e h1, fun r hr => by cases hr⟩
  | inr r1 =>
    obtain ⟨a1, a2, a3, a4⟩ := g2 r1 h1
    obtain ⟨g3, g4⟩ := tou_p (m := wN f) a1
    show gCt b n q f (match pTou b n r1.1 (wN f) with | .inl e => .inl e | .inr r2 => .inr ((pSo b n r2.1).1, ntF f r1.2 r2.2 (pSo b n r2.1).2))
    cases h2 : pTou b n r1.1 (wN f) with
    | inl e => exact ⟨fun e' he => by rw [← Sum.inl.inj he]; exact g3 e h2, fun r hr => by cases hr⟩
    | inr r2 =>
      obtain ⟨b1, b2, b3⟩ := g4 r2 h2
      obtain ⟨c1, c2, c3⟩ := so_p b1
      have p5 : 2 ^ wN f ≤ 2 ^ 5 := Nat.pow_le_pow_right (by decide) w5
      refine ⟨fun e he => (by cases he), fun r hr => ?_⟩
      have e : ((pSo b n r2.1).1, ntF f r1.2 r2.2 (pSo b n r2.1).2) = r := Sum.inr.inj hr
      subst e
      exact ⟨c1, by show q ≤ (pSo b n r2.1).1; omega, ok_nt hk h ⟨a3, a4⟩ (by omega) c3⟩
theorem ask_p {q : Nat} {f : zRow} (hk : okF f) (h : qN f < 8) (hq : nbl b n q) : gCt b n q f (pAsk b n q f) := by
  unfold pAsk
  cases h1 : letF b n q (tN f) with
  | none => exact ⟨fun e' he => by rw [← Sum.inl.inj he]; exact hq.1, fun r hr => by cases hr⟩
  | some s =>
    have g := letF_some h1
    have t2 := tb_le (b := b) (n := n) (p := wE b n q)
    refine ⟨fun e he => (by cases he), fun r hr => ?_⟩
    have e : (tb b n (wE b n q), nqF f s) = r := Sum.inr.inj hr
    subst e
    exact ⟨nbl_tb (wE_hi hq.1), by show q ≤ tb b n (wE b n q); omega, ok_nq hk h g.2.2⟩
theorem wom_p {q : Nat} {f : zRow} (hk : okF f) (h : kN f < 4) (hq : nbl b n q) : gCt b n q f (pWom b n q f) := by
  obtain ⟨g1, g2⟩ := nf_p (w := 11) (lo := 1) (hi := 20) hq (by decide)
  unfold pWom
  cases h1 : nfF b n q 11 1 20 with
  | inl e => exact ⟨fun e' he => by rw [← Sum.inl.inj he]; exact g1 e h1, fun r hr => by cases hr⟩
  | inr r1 =>
    obtain ⟨a1, a2, a3, a4⟩ := g2 r1 h1
    refine ⟨fun e he => (by cases he), fun r hr => ?_⟩
    have e : (r1.1, nkF f r1.2) = r := Sum.inr.inj hr
    subst e
    exact ⟨a1, by show q ≤ r1.1; omega, ok_nk hk h ⟨a3, a4⟩⟩
theorem num_p {i hi q : Nat} {f : zRow} (hq : nbl b n q) (hok : ∀ v, v ≤ hi → okF (upd f i (nI v))) (h4 : i ≠ 4) (h5 : i ≠ 5) (h72 : i < 72) : gCt b n q f (pNum b n i hi q f) := by
  unfold pNum
  cases h1 : nuF b n q 0 hi with
  | none => exact ⟨fun e' he => by rw [← Sum.inl.inj he]; exact hq.1, fun r hr => by cases hr⟩
  | some v =>
    have g := nuF_some h1
    have t2 := tb_le (b := b) (n := n) (p := dE b n q)
    refine ⟨fun e he => (by cases he), fun r hr => ?_⟩
    have e : (tb b n (dE b n q), upd f i (nI v)) = r := Sum.inr.inj hr
    subst e
    exact ⟨nbl_tb (dE_hi hq.1), by show q ≤ tb b n (dE b n q); omega, hok v g.2.2, fun j hj => pk_un (by omega), pk_un (Ne.symm h4), pk_un (Ne.symm h5)⟩
theorem gCt_in {q q' : Nat} {f : zRow} {A : zRc} (h : gCt b n q' f A) (hq : q < q') : (∀ e, A = .inl e → e ≤ n) ∧ ∀ r, A = .inr r → nbl b n r.1 ∧ q < r.1 ∧ okF r.2 ∧ frm r.2 f := ⟨h.1, fun r hr => by
  obtain ⟨a1, a2, a3⟩ := h.2 r hr
  exact ⟨a1, by omega, a3⟩⟩
theorem cl_p {q : Nat} {f : zRow} (hk : okF f) (hq : nbl b n q) : (∀ e, pCl b n q f = .inl e → e ≤ n) ∧ ∀ r, pCl b n q f = .inr r → nbl b n r.1 ∧ q < r.1 ∧ okF r.2 ∧ frm r.2 f := by
  have w5 := hk.w.2
  have t6 := hk.t.2
  have q8 := hk.q.2
  have k4 := hk.k.2
  have stop : (∀ e, (Sum.inl q : zRc) = .inl e → e ≤ n) ∧ ∀ r, (Sum.inl q : zRc) = .inr r → nbl b n r.1 ∧ q < r.1 ∧ okF r.2 ∧ frm r.2 f := ⟨fun e he => by rw [← Sum.inl.inj he]; exact hq.1, fun r hr => by cases hr⟩
  unfold pCl
  by_cases y0 : wdP b n q 0
  · rw [if_pos y0]
    obtain ⟨n1, t1⟩ := wd_nx hq (by decide) y0
    by_cases c : wN f = 5
    · rw [if_pos c]; exact stop
    · rw [if_neg c]; exact gCt_in (wit_p hk (by omega) n1) t1
  rw [if_neg y0]
  by_cases y1 : wdP b n q 5
  · rw [if_pos y1]
    obtain ⟨n1, t1⟩ := wd_nx hq (by decide) y1
    by_cases c : tN f = 6
    · rw [if_pos c]; exact stop
    · rw [if_neg c]; exact gCt_in (thg_p hk (by omega) n1) t1
  rw [if_neg y1]
  by_cases y2 : wdP b n q 9
  · rw [if_pos y2]
    obtain ⟨n1, t1⟩ := wd_nx hq (by decide) y2
    by_cases c : qN f = 8
    · rw [if_pos c]; exact stop
    · rw [if_neg c]; exact gCt_in (ask_p hk (by omega) n1) t1
  rw [if_neg y2]
  by_cases y3 : wdP b n q 10
  · rw [if_pos y3]
    obtain ⟨n1, t1⟩ := wd_nx hq (by decide) y3
    by_cases c : kN f = 4
    · rw [if_pos c]; exact stop
    · rw [if_neg c]; exact gCt_in (wom_p hk (by omega) n1) t1
  rw [if_neg y3]
  by_cases y4 : wdP b n q 12
  · rw [if_pos y4]
    obtain ⟨n1, t1⟩ := wd_nx hq (by decide) y4
    exact gCt_in (num_p n1 (fun v hv => ok_heat hk (isN.of hv)) (by decide) (by decide) (by decide)) t1
  rw [if_neg y4]
  by_cases y5 : wdP b n q 13
  · rw [if_pos y5]
    obtain ⟨n1, t1⟩ := wd_nx hq (by decide) y5
    exact gCt_in (num_p n1 (fun v hv => ok_lies hk (isN.of hv)) (by decide) (by decide) (by decide)) t1
  rw [if_neg y5]
  by_cases y6 : wdP b n q 14
  · rw [if_pos y6]
    obtain ⟨n1, t1⟩ := wd_nx hq (by decide) y6
    exact gCt_in (num_p n1 (fun v hv => ok_talk hk (isN.of hv)) (by decide) (by decide) (by decide)) t1
  rw [if_neg y6]
  by_cases y7 : wdP b n q 15
  · rw [if_pos y7]
    obtain ⟨n1, t1⟩ := wd_nx hq (by decide) y7
    exact gCt_in (num_p n1 (fun v hv => ok_moment hk (isN.of (by omega))) (by decide) (by decide) (by decide)) t1
  rw [if_neg y7]
  exact stop
theorem ctL_e {k q e : Nat} {f : zRow} (h : pCl b n q f = .inl e) : pCtL b n (k + 1) q f = .inl e := by rw [pCtL, h]
theorem ctL_r {k q : Nat} {f : zRow} {r : Nat × zRow} (h : pCl b n q f = .inr r) : pCtL b n (k + 1) q f = if r.1 = n then .inr r.2 else if sgP b n r.1 59 then pCtL b n k (tb b n (r.1 + 1)) r.2 else .inl r.1 := by rw [pCtL, h]
theorem ct_p : ∀ (k : Nat) {q : Nat} {f : zRow}, okF f → nbl b n q → (∀ e, pCtL b n k q f = .inl e → e ≤ n) ∧ ∀ g, pCtL b n k q f = .inr g → okF g ∧ frm g f
  | 0, q, f, hk, hq => by
    refine ⟨fun e he => ?_, fun r hr => by cases hr⟩
    have e1 : q = e := Sum.inl.inj he
    rw [← e1]; exact hq.1
  | k + 1, q, f, hk, hq => by
    obtain ⟨g1, g2⟩ := cl_p hk hq
    cases hp : pCl b n q f with
    | inl e1 =>
      rw [ctL_e hp]
      refine ⟨fun e he => ?_, fun r hr => by cases hr⟩
      rw [← Sum.inl.inj he]; exact g1 e1 hp
    | inr r1 =>
      obtain ⟨a1, a2, a3, a4⟩ := g2 r1 hp
      rw [ctL_r hp]
      by_cases y1 : r1.1 = n
      · rw [if_pos y1]
        refine ⟨fun e he => (by cases he), fun g hg => ?_⟩
        rw [← Sum.inr.inj hg]
        exact ⟨a3, a4⟩
      · rw [if_neg y1]
        by_cases y2 : sgP b n r1.1 59
        · rw [if_pos y2]
          obtain ⟨n1, n2⟩ := sg_nx y2
          obtain ⟨i1, i2⟩ := ct_p k a3 n1
          refine ⟨i1, fun g hg => ?_⟩
          obtain ⟨j1, j2⟩ := i2 g hg
          exact ⟨j1, j2.trans a4⟩
        · rw [if_neg y2]
          refine ⟨fun e he => ?_, fun g hg => by cases hg⟩
          rw [← Sum.inl.inj he]; exact a1.1
theorem court_p {f : zRow} (hk : okF f) : (∀ e, pCourt b n f = .inl e → e ≤ n) ∧ ∀ g, pCourt b n f = .inr g → okF g ∧ frm g f := by
  unfold pCourt
  by_cases y : tb b n 0 = n
  · rw [if_pos y]
    refine ⟨fun e he => (by cases he), fun g hg => ?_⟩
    rw [← Sum.inr.inj hg]
    exact ⟨hk, frm.refl⟩
  · rw [if_neg y]
    exact ct_p 14 hk (nbl_tb (Nat.zero_le n))
end COURTG
