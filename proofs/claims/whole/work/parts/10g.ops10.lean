/-! ===== span, vinegar, blind ===== -/
def inI (op : Int32 → Int32 → Int32) (init : Int32) (g : Nat → Int32) : Nat → Int32
  | 0 => init
  | j + 1 => op (inI op init g j) (g j)
def ouI (op : Int32 → Int32 → Int32) (init : Int32) (V : Nat → Nat → Int32) (n : Nat) : Nat → Int32
  | 0 => init
  | s + 1 => inI op (ouI op init V n s) (V s) n
theorem isN_min2 {x y : Int32} {b : Nat} (h : isN x b) (h2 : isN y b) (hb : b < 2 ^ 31) : isN (zmin x y) b := by
  obtain ⟨m, hm, rfl⟩ := h
  obtain ⟨n, hn, rfl⟩ := h2
  rw [zmin_nI (by omega) (by omega)]
  exact ⟨min m n, by omega, rfl⟩
theorem isN_max2 {x y : Int32} {b : Nat} (h : isN x b) (h2 : isN y b) (hb : b < 2 ^ 31) : isN (zmax x y) b := by
  obtain ⟨m, hm, rfl⟩ := h
  obtain ⟨n, hn, rfl⟩ := h2
  rw [zmax_nI (by omega) (by omega)]
  exact ⟨max m n, by omega, rfl⟩
theorem inI_N {op : Int32 → Int32 → Int32} (hop : ∀ x y, isN x 99 → isN y 99 → isN (op x y) 99) {init : Int32} (hi : isN init 99) {g : Nat → Int32} : ∀ {j : Nat}, (∀ k, k < j → isN (g k) 99) → isN (inI op init g j) 99
  | 0, _ => hi
  | j + 1, h => hop _ _ (inI_N hop hi (fun k hk => h k (by omega))) (h j (by omega))
theorem ouI_N {op : Int32 → Int32 → Int32} (hop : ∀ x y, isN x 99 → isN y 99 → isN (op x y) 99) {init : Int32} (hi : isN init 99) {V : Nat → Nat → Int32} {n : Nat} (hV : ∀ s k, k < n → isN (V s k) 99) : ∀ {s : Nat}, isN (ouI op init V n s) 99
  | 0 => hi
  | s + 1 => inI_N hop (ouI_N hop hi hV) (fun k hk => hV s k hk)
section OPJ
variable {E : zEv} {D : Nat} {px : String → zM → Prop} {M : zM} {K : zM → Prop} {f : zRow}
def spV (most : Bool) : Int32 → Int32 → Int32 := fun x y => if most then zmax x y else zmin x y
theorem spV_N {b : Bool} : ∀ x y, isN x 99 → isN y 99 → isN (spV b x y) 99 := fun x y hx hy => by
  cases b
  · exact isN_min2 hx hy (by decide)
  · exact isN_max2 hx hy (by decide)
theorem spV_1 {b : Bool} {y : Int32} (hy : isN y 99) : spV b (if b then 0 else 99) y = y := by
  obtain ⟨n, hn, rfl⟩ := hy
  cases b
  · show zmin (nI 99) (nI n) = nI n
    rw [zmin_nI (by decide) (by omega), Nat.min_eq_right hn]
  · show zmax (nI 0) (nI n) = nI n
    rw [zmax_nI (by decide) (by omega), Nat.max_eq_right (by omega)]
theorem op_span {x y : Int32} (h : Rel M) (hK : ∀ M', Rel M' → K M') : zCWi E jL_span (D + 20) 1 [.ref 19, .int x, .int y, .ref 18] M (opR E jX12_span (D + 20) [.ref 0, .int x, .int y] K) := by
  have w5 := h.ok.w
  refine e_L_span (e_X11_span (s_X11_needAhead (fun c => ?_) (fun c => ⟨rfl, fun px => ?_⟩)))
  · obtain ⟨n, -, hn, rfl⟩ := c.get (by decide) (by decide)
    have okS : ∀ s, okF (upd (M.1 1) 11 (nI (s + 1))) := fun s => ok_seed h.ok
    have smS : ∀ s, smR (M.1 1) (upd (M.1 1) 11 (nI (s + 1))) := fun s => smR.up (Or.inr (Or.inr (Or.inl rfl)))
    have lkS : ∀ s, lawK (upd (M.1 1) 11 (nI (s + 1))) := fun s => lawK_sm (smS s) h.lk
    have lvS : ∀ s, smR (M.1 1) (liveR (upd (M.1 1) 11 (nI (s + 1))) n) ∧ okF (liveR (upd (M.1 1) 11 (nI (s + 1))) n) := fun s => ⟨(smS s).trans (live_all (okS s) (lkS s) n).1, (live_all (okS s) (lkS s) n).2.1⟩
    generalize hV : (fun s w => liveR (upd (M.1 1) 11 (nI (s + 1))) n (29 + 5 * w + 3)) = V
    have eV : ∀ s w, V s w = liveR (upd (M.1 1) 11 (nI (s + 1))) n (29 + 5 * w + 3) := fun s w => by rw [← hV]
    have VN : ∀ s k, k < wN (M.1 1) → isN (V s k) 99 := fun s k hk => by
      rw [eV]
      exact ((lvS s).2.2.1 k (by rw [(lvS s).1.w]; exact hk)).2.2.2.1
    generalize hb : (!decide (y = 0)) = b
    have hb0 : y = 0 → b = false := fun z => by rw [← hb, decide_eq_true z]; rfl
    have hb1 : ¬ y = 0 → b = true := fun z => by rw [← hb, decide_eq_false z]; rfl
    generalize hi0 : (if b then (0 : Int32) else 99) = init
    have initN : isN init 99 := by
      rw [← hi0]
      cases b
      · exact ⟨99, by decide, rfl⟩
      · exact ⟨0, by decide, rfl⟩
    have one : ∀ v, isN v 99 → spV b init v = v := fun v hv => by rw [← hi0]; exact spV_1 hv
    -- the reference
    have ref : ∀ (M1 : zM) (v : Int32), zpi M1 = zpi M → v = (if wN (M.1 1) = 0 then 0 else ouI (spV b) init V (wN (M.1 1)) 6) → opR E jX12_span (D + 20) [.ref 0, .int (nI n), .int y] K 0 (zupL M1 18 0 v.toInt64) := fun M1 v z1 hv px => by
      have e1 := bl_w4 (x := v.toInt64) z1
      refine e_X12_span (fun M2 em => ?_)
      subst em
      refine s_X12_noAhead (fun _ => s_throws0 (z0A (s_X12_keepsAll ?_))) (fun z => absurd c z)
      generalize hM0 : zup (zupL M1 18 0 v.toInt64) 0 0 0 = M0 at *
      have fin : ∀ M' : zM, kp M' M0 → ∀ b', b' = v → M'.1 0 0 = 0 ∧ ((0 : Int32) = 0 → M'.2 18 0 = b'.toInt64) ∧ K M' := fun M' kk b' hb' => by
        have := kk.1
        rw [← hM0] at this
        exact ok_fin h hK z1 this.ro hb'
      -- what stands behind s seeds and j witnesses
      generalize hY : (fun s j => if (s = 0 ∧ j = 0) ∨ wN (M.1 1) = 0 then (-1 : Int32) else inI (spV b) (ouI (spV b) init V (wN (M.1 1)) s) (V s) j) = Y
      have eY : ∀ s j, Y s j = if (s = 0 ∧ j = 0) ∨ wN (M.1 1) = 0 then (-1 : Int32) else inI (spV b) (ouI (spV b) init V (wN (M.1 1)) s) (V s) j := fun s j => by rw [← hY]
      have key := zup_loop (fun s => ∀ M', kp M' M0 → w_X12_span_28 E (D + 19) (fun b M2 => M2.1 0 0 = 0 ∧ ((0 : Int32) = 0 → M2.2 18 0 = b.toInt64) ∧ K M2) px (nI n) y (Y s 0) (nI (s + 1)) M') 6 (fun s hs ih M' kk => ?_) (fun M' kk => ?_) 0 (by omega) _ kp.of
      · rw [eY, if_pos (Or.inl ⟨rfl, rfl⟩)] at key
        exact key
      · refine t_X12_span_28 (pk_lt 6 (s + 1) (fun z => absurd z (by omega)) (fun _ M4 e4 => ?_))
        rw [n11] at e4
        have hw4 : M4.1 1 = upd (M.1 1) 11 (nI (s + 1)) := by rw [e4, zup_row, kk.1.w, e1]
        refine s_X12_goesOn hw4 (okS s) (lkS s) hn (fun M6 h6 r6 => ?_)
        have r6' : rq M6 M' := r6.trans (by rw [e4]; exact rq.up1)
        have e0 : M6.1 1 (0 : Int32).toNatClampNeg = nI (wN (M.1 1)) := by rw [h6]; exact ((lvS s).1.lo (j := 0) (by omega)).trans w5.1
        have key2 := zup_loop (fun j => w_X12_span_54 E (D + 19) (fun b M2 => M2.1 0 0 = 0 ∧ ((0 : Int32) = 0 → M2.2 18 0 = b.toInt64) ∧ K M2) px (nI n) y (Y s j) (nI (s + 1)) (nI j) M6) (wN (M.1 1)) (fun j hj ihj => ?_) ?_ 0 (by omega)
        · exact key2
        · refine t_X12_span_54 (e_X12_witnesses (pk_le (wN (M.1 1)) j (fun z => absurd z (by omega)) (fun _ => ?_) e0))
          have eo : M6.1 1 (29 + 5 * j + 3) = V s j := by rw [h6, eV]
          have nx : ∀ v', v' = Y s (j + 1) → w_X12_span_106 E (D + 19) (fun b M2 => M2.1 0 0 = 0 ∧ ((0 : Int32) = 0 → M2.2 18 0 = b.toInt64) ∧ K M2) px (nI n) y (nI (s + 1)) (nI j) v' M6 := fun v' hv' => t_X12_span_106 (by
            rw [nI_1, hv']
            exact ihj)
          have eY1 : Y s (j + 1) = spV b (inI (spV b) (ouI (spV b) init V (wN (M.1 1)) s) (V s) j) (V s j) := by rw [eY, if_neg (by omega)]; rfl
          by_cases c0 : s = 0 ∧ j = 0
          · obtain ⟨rfl, rfl⟩ := c0
            have eY0 : Y 0 0 = -1 := by rw [eY, if_pos (Or.inl ⟨rfl, rfl⟩)]
            rw [eY0]
            refine ⟨fun z => absurd z (by decide), fun _ => s_X12_of (what := 3) (by omega) (nx _ ?_)⟩
            rw [eo, eY1]
            exact (one _ (VN 0 0 (by omega))).symm
          · have eYj : Y s j = inI (spV b) (ouI (spV b) init V (wN (M.1 1)) s) (V s) j := by rw [eY, if_neg (by omega)]
            have YN : isN (Y s j) 99 := by rw [eYj]; exact inI_N spV_N (ouI_N spV_N initN VN) (fun k hk => VN s k (by omega))
            refine ⟨fun _ => ⟨fun z => s_X12_of (what := 3) (by omega) (nx _ ?_), fun z => s_X12_of (what := 3) (by omega) (nx _ ?_)⟩, fun z => absurd ?_ z⟩
            · rw [eo, eY1, eYj, hb0 z]; rfl
            · rw [eo, eY1, eYj, hb1 z]; rfl
            · obtain ⟨m, hm, em⟩ := YN
              rw [em]
              exact nI_pos' (by omega)
        · refine t_X12_span_54 (e_X12_witnesses (pk_le (wN (M.1 1)) (wN (M.1 1)) (fun _ => s_X12_bringsBack ?_) (fun z => absurd z (by omega)) e0))
          have bk := kp.back kk r6' (fun j hj => by rw [h6, e1]; exact (lvS s).1.lo (by omega))
          rw [nI_1]
          have := ih _ bk
          have e2 : Y s (wN (M.1 1)) = Y (s + 1) 0 := by
            rw [eY, eY]
            by_cases cw : wN (M.1 1) = 0
            · rw [if_pos (Or.inr cw), if_pos (Or.inr cw)]
            · rw [if_neg (by omega), if_neg (by omega)]
              rfl
          rw [e2]
          exact this
      · refine t_X12_span_28 (pk_lt 6 7 (fun _ => fin M' kk _ ?_) (fun z => absurd z (by omega)))
        rw [hv, eY]
        by_cases cw : wN (M.1 1) = 0
        · rw [if_pos (Or.inr cw), if_pos cw]; rfl
        · rw [if_neg (by omega), if_neg cw]
          obtain ⟨m, hm, em⟩ := ouI_N spV_N initN VN (op := spV b) (V := V) (n := wN (M.1 1)) (s := 6)
          show zmax 0 (ouI (spV b) init V (wN (M.1 1)) 6) = _
          rw [em]
          show zmax (nI 0) (nI m) = nI m
          rw [zmax_nI (by decide) (by omega), Nat.max_eq_right (by omega)]
    -- the class
    refine ⟨fun zw => ?_, fun zw M4 e4 => ?_⟩
    · have wn0 : wN (M.1 1) ≠ 0 := fun z => zw (by rw [h.nW, z]; rfl)
      have loop : ∀ v, v = init → w_X11_span_30 E (D + 18) (fun r3 M1 => ∀ M4 : zM, M4 = zupL M1 18 (0 : Int32).toNatClampNeg r3.toInt64 → opR E jX12_span (D + 20) [.ref 0, .int (nI n), .int y] K 0 M4) (fun X M9 => X = "java/lang/IllegalArgumentException" ∧ opR E jX12_span (D + 20) [.ref 0, .int (nI n), .int y] K 1 M9) (nI n) y v M := fun v hv => by
        refine t_X11_span_30 ?_
        rw [hv]
        refine zup_loop (fun s => ∀ M', cb 75 M' M → w_X11_span_34 E (D + 18) (fun r3 M1 => ∀ M4 : zM, M4 = zupL M1 18 (0 : Int32).toNatClampNeg r3.toInt64 → opR E jX12_span (D + 20) [.ref 0, .int (nI n), .int y] K 0 M4) (fun X M9 => X = "java/lang/IllegalArgumentException" ∧ opR E jX12_span (D + 20) [.ref 0, .int (nI n), .int y] K 1 M9) (nI n) y (ouI (spV b) init V (wN (M.1 1)) s) (nI (s + 1)) M') 6 (fun s hs ih M' hb' => ?_) (fun M' hb' => ?_) 0 (by omega) M cb.refl
        · have hR' : Rel M' := h.same (cb75 hb')
          have hw' : M'.1 1 = M.1 1 := zpi_w (cb75 hb')
          refine t_X11_span_34 (pk_lt 6 (s + 1) (fun z => absurd z (by omega)) (fun _ => s_scratch hR' (fun M3 cr3 b3 M6 e6 => ?_)))
          rw [hw'] at cr3
          have cr6 : cR M6 75 (upd (M.1 1) 11 (nI (s + 1))) := cr_seed h.ok cr3 (fun o j h1 h2 h3 => by rw [e6, zup_n (by omega)]) (fun j => by rw [e6]; rfl) (by rw [e6, zup_s])
          have b6 : cb 75 M6 M := by rw [e6]; exact (cb.up (by decide) (by decide)).trans (b3.cb.trans hb')
          refine s_X1_live zc75 cr6 (okS s) ((smS s).law (lawR_cb (by decide) b6 h.law)) hn (fun M8 cr8 b8 => ?_)
          have b8' := b8.trans b6
          have nW8 : M8.1 62 6 = nI (wN (M.1 1)) := by rw [(b8' 62 (by decide) (by decide) (by omega) (by omega)).1]; exact h.nW
          have key2 := zup_loop (fun j => w_X11_span_77 E (D + 18) (fun r3 M1 => ∀ M4 : zM, M4 = zupL M1 18 (0 : Int32).toNatClampNeg r3.toInt64 → opR E jX12_span (D + 20) [.ref 0, .int (nI n), .int y] K 0 M4) (fun X M9 => X = "java/lang/IllegalArgumentException" ∧ opR E jX12_span (D + 20) [.ref 0, .int (nI n), .int y] K 1 M9) (nI n) y (inI (spV b) (ouI (spV b) init V (wN (M.1 1)) s) (V s) j) (nI (s + 1)) (nI j) M8) (wN (M.1 1)) (fun j hj ihj => ?_) ?_ 0 (by omega)
          · exact key2
          · refine t_X11_span_77 (pk_le (wN (M.1 1)) j (fun z => absurd z (by omega)) (fun _ => ⟨pk_in j _ (by omega), ?_⟩) nW8)
            have v80 : M8.1 80 j = V s j := (cr8.2.1 j (by rw [(lvS s).1.w]; exact hj)).2.2.2.1.trans (eV s j).symm
            rw [nI_clamp (by omega), v80]
            refine ⟨fun z => t_X11_span_126 ?_, fun z => t_X11_span_126 ?_⟩
            · rw [nI_1, show zmin (inI (spV b) (ouI (spV b) init V (wN (M.1 1)) s) (V s) j) (V s j) = inI (spV b) (ouI (spV b) init V (wN (M.1 1)) s) (V s) (j + 1) by rw [inI, hb0 z]; rfl]
              exact ihj
            · rw [nI_1, show zmax (inI (spV b) (ouI (spV b) init V (wN (M.1 1)) s) (V s) j) (V s j) = inI (spV b) (ouI (spV b) init V (wN (M.1 1)) s) (V s) (j + 1) by rw [inI, hb1 z]; rfl]
              exact ihj
          · refine t_X11_span_77 (pk_le (wN (M.1 1)) (wN (M.1 1)) (fun _ => ?_) (fun z => absurd z (by omega)) nW8)
            rw [nI_1]
            exact ih M8 b8'
        · refine t_X11_span_34 (pk_lt 6 7 (fun _ M4 e4 => ?_) (fun z => absurd z (by omega)))
          rw [e4]
          exact ref M' _ (cb75 hb') (by rw [if_neg wn0])
      refine ⟨fun z => loop _ ?_, fun z => loop _ ?_⟩
      · rw [← hi0, hb0 z]; rfl
      · rw [← hi0, hb1 z]; rfl
    · rw [e4]
      have wn0 : wN (M.1 1) = 0 := (nI_eq (by omega) (by decide)).mp (h.nW.symm.trans zw)
      exact ref M _ rfl (by rw [if_pos wn0])
  · exact e_X12_span (fun M1 e1 => s_X12_noAhead (fun z => absurd z c) (fun _ => s_throws1 (z1B (by rw [e1]; exact bad_end h hK (by decide)))))
/-! vinegar -/
section VIN
variable {w d : Nat}
theorem vn_o {j : Nat} (h : j ≠ 29 + 5 * w + 2) : upd f (29 + 5 * w + 2) (nI d) j = f j := pk_un h
theorem vn_wt (hw : w < 5) (ht : tN f ≤ 6) (v : Nat) (said : Int32) : wtF (upd f (29 + 5 * w + 2) (nI d)) v said = wtF f v said := wt_ag (vn_o (by omega)) (fun t ht2 => ⟨vn_o (by omega), vn_o (by omega)⟩)
theorem vn_ag (hw : w < 5) {v : Nat} (hv : v < 5) (hne : v ≠ w) : agW f (upd f (29 + 5 * w + 2) (nI d)) v := ⟨vn_o (by omega), vn_o (by omega), vn_o (by omega), fun j hj => vn_o (by omega), fun k hk => vn_o (by omega)⟩
theorem vn_pd (hw : w < 5) (ht : tN f ≤ 6) {v : Nat} (hv : v < 5) (hne : v ≠ w) (said : Int32) : pdF (upd f (29 + 5 * w + 2) (nI d)) v said = pdF f v said := by
  have ag := vn_ag (f := f) (d := d) hw hv hne
  unfold pdF ownF passF
  rw [vn_wt hw ht, lsum_ag ag, lsum_ag ag, ag.2.2.2.2 0 (by decide), ag.2.2.2.2 1 (by decide), ag.2.2.2.2 2 (by decide), ag.2.1]
theorem rise_c (o L R o2 : Int32) : o + L + R - o + o2 = o2 + L + R := by
  apply Int32.toBitVec_inj.1
  show o.toBitVec + L.toBitVec + R.toBitVec - o.toBitVec + o2.toBitVec = o2.toBitVec + L.toBitVec + R.toBitVec
  apply BitVec.eq_of_toNat_eq
  simp only [BitVec.toNat_add, BitVec.toNat_sub]
  have h1 := o.toBitVec.isLt
  have h2 := L.toBitVec.isLt
  have h3 := R.toBitVec.isLt
  have h4 := o2.toBitVec.isLt
  omega
theorem vn_so (hw : w < 5) (ht : tN f ≤ 6) : soF (upd f (29 + 5 * w + 2) (nI d)) = soF f := by
  unfold soF
  rw [show tN (upd f (29 + 5 * w + 2) (nI d)) = tN f by unfold tN; rw [vn_o (by omega)]]
  exact orI_cong fun t ht2 => by rw [vn_o (by omega)]
theorem vn_rise (hk : okF f) (hw : w < wN f) (said : Int32) : riseF (upd f (29 + 5 * w + 2) (nI d)) said w = riseF f said w - ownF f w said + ownF (upd f (29 + 5 * w + 2) (nI d)) w said := by
  have w5 := hk.w.2
  have t6 := hk.t.2
  obtain ⟨p1, p2, p3⟩ := hk.plE hw
  unfold riseF
  have e1 : plc (upd f (29 + 5 * w + 2) (nI d)) w = plc f w := by unfold plc; rw [vn_o (by omega)]
  have e2 : wN (upd f (29 + 5 * w + 2) (nI d)) = wN f := by unfold wN; rw [vn_o (by omega)]
  have e3 : ∀ k, k < 5 → rw_ (upd f (29 + 5 * w + 2) (nI d)) k = rw_ f k := fun k hk' => by unfold rw_; rw [vn_o (by omega)]
  have eL : (if 0 < plc f w then pdF (upd f (29 + 5 * w + 2) (nI d)) (rw_ (upd f (29 + 5 * w + 2) (nI d)) (plc f w - 1)) said else 0) = (if 0 < plc f w then pdF f (rw_ f (plc f w - 1)) said else 0) := by
    by_cases c : 0 < plc f w
    · rw [if_pos c, if_pos c, e3 _ (by omega)]
      obtain ⟨q1, q2, q3⟩ := hk.rwE (show plc f w - 1 < wN f by omega)
      exact vn_pd (by omega) t6 (by omega) (fun z => by rw [z] at q3; omega) said
    · rw [if_neg c, if_neg c]
  have eR : (if plc f w + 1 < wN f then pdF (upd f (29 + 5 * w + 2) (nI d)) (rw_ (upd f (29 + 5 * w + 2) (nI d)) (plc f w + 1)) said else 0) = (if plc f w + 1 < wN f then pdF f (rw_ f (plc f w + 1)) said else 0) := by
    by_cases c : plc f w + 1 < wN f
    · rw [if_pos c, if_pos c, e3 _ (by omega)]
      obtain ⟨q1, q2, q3⟩ := hk.rwE c
      exact vn_pd (by omega) t6 (by omega) (fun z => by rw [z] at q3; omega) said
    · rw [if_neg c, if_neg c]
  rw [e1, e2, eL, eR]
  exact (rise_c _ _ _ _).symm
theorem vn_fnd (hw : w < 5) (hk4 : kN f ≤ 4) (r : Int32) : fndF (upd f (29 + 5 * w + 2) (nI d)) w r ↔ fndF f w r := by
  unfold fndF
  have e : kN (upd f (29 + 5 * w + 2) (nI d)) = kN f := by unfold kN; rw [vn_o (by omega)]
  rw [e]
  refine exists_congr (fun k => and_congr_right (fun hk => ?_))
  unfold seeF rdF
  rw [vn_o (by omega), vn_o (by omega)]
end VIN
theorem op_vinegar {x y : Int32} (h : Rel M) (hK : ∀ M', Rel M' → K M') : zCWi E jL_vinegar (D + 20) 2 [.ref 19, .int x, .int y, .ref 18] M (opR E jX12_vinegar (D + 20) [.ref 0, .int x, .int y] K) := by
  have w5 := h.ok.w
  have q8 := h.ok.q
  have k4 := h.ok.k
  have t6 := h.ok.t
  by_cases cw : zv x (wN (M.1 1))
  · obtain ⟨w, hw, rfl⟩ := cw.get (by omega)
    by_cases cq : zv y (qN (M.1 1))
    · obtain ⟨q, hq, rfl⟩ := cq.get (by omega)
      have hin : vp_in (nI w) 5 := pk_in w _ (by omega)
      generalize hG : (fun d => upd (M.1 1) (29 + 5 * w + 2) (nI d)) = G
      have eG : ∀ d, G d = upd (M.1 1) (29 + 5 * w + 2) (nI d) := fun d => by rw [← hG]
      have okG : ∀ d, d ≤ 99 → okF (G d) := fun d hd => by rw [eG]; exact ok_drink h.ok hw (isN.of hd)
      have hiG : ∀ d j, 372 ≤ j → G d j = M.1 1 j := fun d j hj => by rw [eG]; exact pk_un (by omega)
      generalize hp : (fun d => ¬ fndF (M.1 1) w (riseF (G d) (sdF (M.1 1) q) w)) = p
      have hpi : ∀ d, p d ↔ ¬ fndF (M.1 1) w (riseF (G d) (sdF (M.1 1) q) w) := fun d => by rw [← hp]
      have ref : ∀ M1, zpi M1 = zpi M → opR E jX12_vinegar (D + 20) [.ref 0, .int (nI w), .int (nI q)] K 0 (zupL M1 18 0 (fstI p nI 100).toInt64) := fun M1 z1 px => by
        have e1 := bl_w4 (x := (fstI p nI 100).toInt64) z1
        refine e_X12_vinegar (fun M2 em => ?_)
        subst em
        refine s_X12_noWitness (n := wN (M.1 1)) (by rw [e1]; exact w5.1) (by omega) (fun _ => z0B (s_X12_noQuestion (n := qN (M.1 1)) (by rw [e1]; exact q8.1) (by omega) (fun _ => z0A (t_X12_vinegar_27 (s_throws0 (z0A (s_X12_of (what := 2) (by omega) ?_))))) (fun z => absurd cq z))) (fun z => absurd cw z)
        rw [e1]
        generalize hM0 : zup (zupL M1 18 0 (fstI p nI 100).toInt64) 0 0 0 = M0 at *
        have key := zup_loop (fun i => ∀ M', (∃ v, M'.1 1 = upd (M.1 1) (29 + 5 * w + 2) v) → (∀ o, o ≠ 1 → o ≠ 8 → o ≠ 9 → M'.1 o = M0.1 o) → M'.2 = M0.2 → w_X12_vinegar_50 E (D + 19) (fun b M2 => M2.1 0 0 = 0 ∧ ((0 : Int32) = 0 → M2.2 18 0 = b.toInt64) ∧ K M2) px (nI w) (nI q) (M.1 1 (29 + 5 * w + 2)) (dwnL p nI 100 i) (nI (100 - i) - 1) M') 100 (fun i hi ih M' hv hr hr2 => ?_) (fun M' hv hr hr2 => ?_) 0 (by omega) M0 ⟨_, by rw [e1]; exact (fa_upd_same rfl).symm⟩ (fun _ _ _ _ => rfl) rfl
        · exact key
        · obtain ⟨v, hv⟩ := hv
          rw [show 100 - i = (100 - 1 - i) + 1 by omega, nI_pred]
          refine t_X12_vinegar_50 ⟨fun z => absurd z (nI_pos (by omega)), fun _ => s_X12_at (what := 2) ⟨pk_in _ _ (show 29 + 5 * w + 2 < 2070 by omega), fun M16 e16 => ?_⟩⟩
          rw [nI_clamp (by omega)] at e16
          have h16 : M16.1 1 = G (100 - 1 - i) := by rw [e16, zup_row, hv, fa_upd_twice, eG]
          have ok := okG (100 - 1 - i) (by omega)
          have wG : wN (G (100 - 1 - i)) = wN (M.1 1) := by rw [eG]; unfold wN; rw [pk_un (by omega)]
          have lk : lawK (G (100 - 1 - i)) := by
            have : lawR M 36 (G (100 - 1 - i)) := lawR_same (by rw [eG]; exact pk_un (by omega)) (fun j _ => hiG _ _ (by omega)) rfl (fun _ _ _ _ _ => rfl) (fun _ _ => rfl) h.law
            exact this.k
          have sd : sdF (G (100 - 1 - i)) q = sdF (M.1 1) q := by
            rw [eG]
            unfold sdF
            rw [vn_so (by omega) t6.2, pk_un (by omega)]
          refine s_X12_risesBy h16 ok lk (by omega) (by rw [wG]; exact hw) (fun M18 r18 => s_X12_someSees (f := G (100 - 1 - i)) (by rw [r18.w, h16]) ok (by omega) ?_)
          have fe : fndF (G (100 - 1 - i)) w (riseF (G (100 - 1 - i)) (sdF (G (100 - 1 - i)) q) w) ↔ fndF (M.1 1) w (riseF (G (100 - 1 - i)) (sdF (M.1 1) q) w) := by
            rw [sd]
            generalize riseF (G (100 - 1 - i)) (sdF (M.1 1) q) w = rr
            rw [eG]
            exact vn_fnd (by omega) k4.2 rr
          rw [bI_c fe]
          have nx : ∀ v', v' = dwnL p nI 100 (i + 1) → w_X12_vinegar_88 E (D + 19) (fun b M2 => M2.1 0 0 = 0 ∧ ((0 : Int32) = 0 → M2.2 18 0 = b.toInt64) ∧ K M2) px (nI w) (nI q) (M.1 1 (29 + 5 * w + 2)) (nI (100 - 1 - i)) v' M18 := fun v' hv' => t_X12_vinegar_88 (by
            rw [hv', show nI (100 - 1 - i) + -1 = nI (100 - (i + 1)) - 1 by rw [show 100 - (i + 1) = 100 - 1 - i by omega]; exact (Int32.sub_eq_add_neg _ 1).symm]
            refine ih M18 ⟨nI (100 - 1 - i), by rw [r18.w, h16, eG]⟩ (fun o h1 h2 h3 => ?_) ?_
            · rw [r18.1 o h2 h3, e16, zup_o h1]; exact hr o h1 h2 h3
            · rw [r18.2, e16, zup_L]; exact hr2)
          refine ⟨fun z => nx _ ?_, fun z => nx _ ?_⟩
          · rw [dwnL, if_pos ((hpi _).mpr (bI_0.mp z))]
          · rw [dwnL, if_neg (fun q' => (hpi _).mp q' (bI_n0.mp z))]
        · obtain ⟨v, hv⟩ := hv
          rw [Nat.sub_self]
          refine t_X12_vinegar_50 ⟨fun _ => s_X12_at (what := 2) ⟨pk_in _ _ (show 29 + 5 * w + 2 < 2070 by omega), fun M9 e9 => ?_⟩, fun z => absurd (by decide) z⟩
          rw [nI_clamp (by omega)] at e9
          have : rk M9 M0 := ⟨fun o h1 h2 => by
            by_cases c : o = 1
            · rw [c, e9, zup_row, hv, fa_upd_twice, e1]; exact fa_upd_same rfl
            · rw [e9, zup_o c]; exact hr o c h1 h2, by rw [e9, zup_L]; exact hr2⟩
          rw [← hM0] at this
          exact ok_fin h hK z1 (ro.rk this) dwn_fst
      refine e_L_vinegar (e_X11_vinegar (s_X11_needWitness h.nW (fun _ => s_X11_needQuestion h.nQ (fun _ => s_X1_raise zc61 h.now h.ok h.law hq (fun M5 h5 b5 => ⟨hin, hin, ?_⟩)) (fun z => absurd cq z)) (fun z => absurd cw z)))
      rw [h.so] at h5
      have hR5 : Rel M5 := h.same b5.pi
      have hw5 : M5.1 1 = M.1 1 := b5.w
      refine s_scratch hR5 (fun M11 cr11 b11 => ?_)
      rw [hw5] at cr11
      rw [nI_clamp (by omega), (h5 w hw).2.2, (h5 w hw).2.1]
      have c44 : M11.1 44 w = wtF (M.1 1) w (sdF (M.1 1) q) := by rw [(b11 44 (by omega)).1]; exact (h5 w hw).1
      refine zup_loop (fun i => ∀ M', (∃ v, isN v 99 ∧ cR M' 75 (upd (M.1 1) (29 + 5 * w + 2) v)) → M'.1 44 = M11.1 44 → cb 75 M' M → (∀ d, d < i → ¬ p d) → w_X11_vinegar_63 E (D + 18) (fun r3 M1 => ∀ M4 : zM, M4 = zupL M1 18 (0 : Int32).toNatClampNeg r3.toInt64 → opR E jX12_vinegar (D + 20) [.ref 0, .int (nI w), .int (nI q)] K 0 M4) (fun X M9 => X = "java/lang/IndexOutOfBoundsException" ∧ opR E jX12_vinegar (D + 20) [.ref 0, .int (nI w), .int (nI q)] K 1 M9) (nI w) (riseF (M.1 1) (sdF (M.1 1) q) w - ownF (M.1 1) w (sdF (M.1 1) q)) (nI i) M') 100 (fun i hi ih M' hv h44 hb hno => ?_) (fun M' hv h44 hb hno => ?_) 0 (by omega) M11 ⟨_, (h.ok.2.1 w hw).2.2.1, by rw [fa_upd_same rfl]; exact cr11⟩ rfl (b11.cb.trans b5.cb) (fun d hd => absurd hd (by omega))
      · obtain ⟨v, hv1, hv⟩ := hv
        refine t_X11_vinegar_63 (pk_lt 99 i (fun z => absurd z (by omega)) (fun _ => ⟨hin, fun M6 e6 => ?_⟩))
        rw [nI_clamp (by omega)] at e6
        have wv : w < wN (upd (M.1 1) (29 + 5 * w + 2) v) := by unfold wN; rw [pk_un (by omega)]; exact hw
        have ok := okG i (by omega)
        have cr6 : cR M6 75 (G i) := by
          have := cr_drink (M1 := M6) (v := nI i) (ok_drink h.ok hw hv1) wv hv (fun o j h1 h2 h3 => by rw [e6, zup_n (by omega)]) (fun j => by rw [e6]; rfl) (by rw [e6, zup_s])
          rw [fa_upd_twice, ← eG] at this
          exact this
        have wG : w < wN (G i) := by rw [eG]; unfold wN; rw [pk_un (by omega)]; exact hw
        have b6 : cb 75 M6 M := by rw [e6]; exact (cb.up (by decide) (by decide)).trans hb
        have lG : lawR M6 36 (G i) := lawR_same (by rw [eG]; exact pk_un (by omega)) (fun j _ => hiG _ _ (by omega)) rfl (fun _ _ _ _ _ => rfl) (fun _ _ => rfl) (lawR_cb (by decide) b6 h.law)
        have c446 : M6.1 44 w = wtF (G i) w (sdF (M.1 1) q) := by
          rw [e6, zup_o (by decide), h44, c44, eG, vn_wt (by omega) t6.2]
        refine s_X1_ownOf zc75 cr6 ok lG wG c446 (fun M8 b8 => ⟨hin, fun M13 e13 => ?_⟩)
        rw [nI_clamp (by omega)] at e13
        have er : riseF (M.1 1) (sdF (M.1 1) q) w - ownF (M.1 1) w (sdF (M.1 1) q) + ownF (G i) w (sdF (M.1 1) q) = riseF (G i) (sdF (M.1 1) q) w := by
          rw [eG]; exact (vn_rise h.ok hw _).symm
        rw [er] at e13
        have b13 : bl M13 M6 := by rw [e13]; exact (bl.up (by decide) (by decide)).trans b8.bl
        have cr13 := cR_bl zc75 b13 ok cr6
        have v47 : M13.1 47 w = riseF (G i) (sdF (M.1 1) q) w := by rw [e13, zup_s]
        have fe : fndF (G i) w (M13.1 47 w) ↔ fndF (M.1 1) w (riseF (G i) (sdF (M.1 1) q) w) := by
          rw [v47]
          generalize riseF (G i) (sdF (M.1 1) q) w = rr
          rw [eG]
          exact vn_fnd (by omega) k4.2 rr
        refine s_X1_isFoundOut zc75 cr13 ok wG (fun z => z1A ?_) (fun z => z0B (fun M4 e4 => ?_))
        · rw [nI_1]
          refine ih M13 ⟨nI i, isN.of (by omega), by rw [← eG]; exact cr13⟩ ?_ (b13.cb.trans b6) (fun d hd => ?_)
          · rw [e13, zup_o (by decide), b8.1 44 (by decide) (by decide), e6, zup_o (by decide)]; exact h44
          · by_cases cd : d = i
            · rw [cd]; exact fun q' => (hpi i).mp q' (fe.mp z)
            · exact hno d (by omega)
        · rw [e4]
          have := ref M13 (cb75 (b13.cb.trans b6))
          rw [fst_at (v := nI) ((hpi i).mpr (fun q' => z (fe.mpr q'))) hno hi] at this
          exact this
      · refine t_X11_vinegar_63 (pk_lt 99 100 (fun _ M4 e4 => ?_) (fun z => absurd z (by omega)))
        rw [e4]
        have := ref M' (cb75 hb)
        rw [fst_no hno] at this
        exact this
    · refine e_L_vinegar (e_X11_vinegar (s_X11_needWitness h.nW (fun _ => s_X11_needQuestion h.nQ (fun z => absurd z cq) (fun _ => ⟨rfl, fun px => ?_⟩)) (fun z => absurd cw z)))
      exact e_X12_vinegar (fun M1 e1 => s_X12_noWitness (n := wN (M.1 1)) (by rw [e1]; exact w5.1) (by omega) (fun _ => z0B (s_X12_noQuestion (n := qN (M.1 1)) (by rw [e1]; exact q8.1) (by omega) (fun z => absurd z cq) (fun _ => z1B (t_X12_vinegar_22 (t_X12_vinegar_27 (s_throws1 (z1B (by rw [e1]; exact bad_end h hK (by decide))))))))) (fun z => absurd cw z))
  · refine e_L_vinegar (e_X11_vinegar (s_X11_needWitness h.nW (fun z => absurd z cw) (fun _ => ⟨rfl, fun px => ?_⟩)))
    exact e_X12_vinegar (fun M1 e1 => s_X12_noWitness (n := wN (M.1 1)) (by rw [e1]; exact w5.1) (by omega) (fun z => absurd z cw) (fun _ => z1A (t_X12_vinegar_22 (t_X12_vinegar_27 (s_throws1 (z1B (by rw [e1]; exact bad_end h hK (by decide))))))))
end OPJ
