/-! ===== tell, seed, change ===== -/
section OPB
variable {f : zRow} {E : zEv} {D : Nat} {post : zM → Prop} {px : String → zM → Prop} {M : zM} {K : zM → Prop}
theorem so_upd {t : Nat} {b : Int32} (hk : okF f) (ht : t < tN f) (hb : isN b 1) : soF (upd f (54 + 3 * t + 2) b) = if b = 0 then soF f &&& ((1 <<< (nI t &&& 31)) ^^^ -1) else soF f ||| (1 <<< (nI t &&& 31)) := by
  have t6 := hk.t.2
  have hk2 := ok_so hk ht hb
  have n1 : tN (upd f (54 + 3 * t + 2) b) = tN f := by show tn (upd f (54 + 3 * t + 2) b 1) = _; rw [pk_un (by omega)]
  apply bt_ext
  intro i hi
  have e1 := bt_so hk2 i
  have e2 := bt_so hk i
  rw [n1] at e1
  by_cases c : i = t
  · subst c
    rw [pk_us] at e1
    rcases isN1 hb with rfl | rfl
    · rw [if_pos rfl, bt_and, bt_xor, bt_bit (by omega), bt_m1 hi]
      have : bt (soF (upd f (54 + 3 * i + 2) 0)) i = false := Bool.eq_false_iff.mpr (fun z => absurd (e1.mp z).2 (by decide))
      rw [this]
      simp
    · rw [if_neg (by decide), bt_or, bt_bit (by omega), e1.mpr ⟨ht, rfl⟩]
      simp
  · rw [pk_un (show 54 + 3 * i + 2 ≠ 54 + 3 * t + 2 by omega)] at e1
    have e3 : bt (soF (upd f (54 + 3 * t + 2) b)) i = bt (soF f) i := by
      rw [Bool.eq_iff_iff, e1, e2]
    rw [e3]
    rcases isN1 hb with rfl | rfl
    · rw [if_pos rfl, bt_and, bt_xor, bt_bit (by omega), bt_m1 hi]
      simp [c]
    · rw [if_neg (by decide), bt_or, bt_bit (by omega)]
      simp [c]
theorem so_same {t : Nat} {b : Int32} (hk : okF f) (ht : t < tN f) (hb : isN b 1) : soF (upd f (54 + 3 * t + 2) b) = soF f ↔ f (54 + 3 * t + 2) = b := by
  have t6 := hk.t.2
  constructor
  · intro h
    have n1 : tN (upd f (54 + 3 * t + 2) b) = tN f := by show tn (upd f (54 + 3 * t + 2) b 1) = _; rw [pk_un (by omega)]
    have e1 := bt_so (ok_so hk ht hb) t
    have e2 := bt_so hk t
    rw [h, e2, n1, pk_us] at e1
    rcases isN1 hb with rfl | rfl
    · rcases isN1 (hk.2.2.1 t ht).2.2.2 with c | c
      · exact c
      · exact absurd (e1.mp ⟨ht, c⟩).2 (by decide)
    · exact (e1.mpr ⟨ht, rfl⟩).2
  · intro h
    rw [fa_upd_same h]
theorem op_tell {x y : Int32} (h : Rel M) (hK : ∀ M', Rel M' → K M') : zCWi E jL_tell (D + 5) 1 [.ref 19, .int x, .int y, .ref 18] M (opRb E jX12_tell (D + 5) [.ref 0, .int x, .int y] K) := by
  obtain ⟨n, hn, h7⟩ := h.rem
  have t6 := h.ok.t
  have hc0 : M.1 61 6 = nI (tN (M.1 1)) := h.now.1.2.1.trans t6.1
  have hso : M.1 61 10 = soF (M.1 1) := h.now.1.2.2.2.2.2.1
  refine e_L_tell (e_X11_tell (s_X11_needThing hc0 (fun c => ?_) (fun c => ⟨rfl, fun px => ?_⟩)))
  · obtain ⟨t, ht, rfl⟩ := c.get (by omega)
    obtain ⟨b, hb, hy0, hy1⟩ : ∃ b : Int32, isN b 1 ∧ (y = 0 → b = 0) ∧ (¬ y = 0 → b = 1) := by
      by_cases c : y = 0
      · exact ⟨0, ⟨0, by decide, rfl⟩, fun _ => rfl, fun z => absurd c z⟩
      · exact ⟨1, ⟨1, by decide, rfl⟩, fun z => absurd z c, fun _ => rfl⟩
    refine s_remember h (fun M' hA hS hW => ?_)
    have e10 : M'.1 61 10 = soF (M.1 1) := (hS 61 10 (by decide) (by decide)).1.trans hso
    rw [e10]
    -- the class's new bits
    have key : ∀ s0, s0 = soF (upd (M.1 1) (54 + 3 * t + 2) b) → w_X11_tell_47 E (D + 3) (fun r3 M1 => (r3 = 0 → w_L_tell_16 E (D + 4) (opRb E jX12_tell (D + 5) [.ref 0, .int (nI t), .int y] K) (fun _ _ => False) 0 0 M1) ∧ (¬ r3 = 0 → w_L_tell_16 E (D + 4) (opRb E jX12_tell (D + 5) [.ref 0, .int (nI t), .int y] K) (fun _ _ => False) 1 0 M1)) (fun X M9 => X = "java/lang/IndexOutOfBoundsException" ∧ opRb E jX12_tell (D + 5) [.ref 0, .int (nI t), .int y] K 1 M9) (soF (M.1 1)) s0 M' := by
      intro s0 hs0
      refine t_X11_tell_47 (fun M1 e1 => ?_)
      have fin : ∀ x0 : Int64, (x0 = if soF (upd (M.1 1) (54 + 3 * t + 2) b) = soF (M.1 1) then 0 else 1) → w_L_tell_16 E (D + 4) (opRb E jX12_tell (D + 5) [.ref 0, .int (nI t), .int y] K) (fun _ _ => False) x0 0 M1 := by
        intro x0 hx0
        refine t_L_tell_16 ⟨pk_in 0 _ (by decide), fun M3 e3 px => ?_⟩
        rw [n0] at e3
        subst e1 e3
        refine e_X12_tell (fun M1 e1 => s_X12_noThing (n := tN (M.1 1)) (by rw [e1, act_w (by decide) hW]; exact t6.1) (by omega) (fun _ => s_throws0 (z0B (s_X12_thingAt (what := 2) ?_))) (fun z => absurd c z))
        have ref : w_X12_tell_33 E (D + 4) (fun b M2 => M2.1 0 0 = 0 ∧ ((0 : Int32) = 0 → (b = 0 → M2.2 18 0 = 0) ∧ (¬ b = 0 → M2.2 18 0 = 1)) ∧ K M2) px y b (nI (54 + 3 * t + 2)) M1 := by
          refine t_X12_tell_33 (s_X12_isNow (n := n) (by omega) hn ?_ (fun M2 f1 f2 f3 f4 => ?_))
          · subst e1; exact act_7 (by decide) hW h7
          · have hend : ∀ bb : Int32, bb = b → w_X12_tell_45 E (D + 4) (fun b M2 => M2.1 0 0 = 0 ∧ ((0 : Int32) = 0 → (b = 0 → M2.2 18 0 = 0) ∧ (¬ b = 0 → M2.2 18 0 = 1)) ∧ K M2) px bb (M1.1 1 (54 + 3 * t + 2)) M2 := by
              intro bb hbb
              subst hbb
              have g1 : M2.1 0 0 = 0 := by rw [f4, e1]; exact zup_s
              have g2 : M2.2 18 0 = x0 := by rw [f3, e1, zup_L, zupL_s]
              have g3 : K M2 := hK _ (by
                subst e1
                exact act_fin h (by decide) (by decide) hA hS hW hn h7 f1 f2 (by omega) (ok_so h.ok ht hb) (fun M1 a b c => cr_so h.ok ht h.now a b (c.trans hs0)))
              have g4 : M1.1 1 (54 + 3 * t + 2) = M.1 1 (54 + 3 * t + 2) := by rw [e1, act_w (by decide) hW]
              have iff := so_same h.ok ht hb
              refine t_X12_tell_45 ⟨fun z => t_X12_tell_52 (t_X12_tell_53 ⟨Or.inl rfl, g1, fun _ => ⟨fun _ => ?_, fun q => absurd rfl q⟩, g3⟩), fun z => t_X12_tell_53 ⟨Or.inr rfl, g1, fun _ => ⟨fun q => absurd q (by decide), fun _ => ?_⟩, g3⟩⟩
              · rw [g2, hx0, if_pos (iff.mpr (g4.symm.trans z))]
              · rw [g2, hx0, if_neg (fun q => z (g4.trans (iff.mp q)))]
            exact ⟨fun z => hend 0 (hy0 z).symm, fun z => hend 1 (hy1 z).symm⟩
        exact ⟨fun z => by rw [hy0 z] at ref; exact ref, fun z => by rw [hy1 z] at ref; exact ref⟩
      rw [e1, zup_s, ← e1, hs0]
      refine ⟨fun z => t_X11_tell_66 ⟨Or.inl rfl, fun _ => ?_, fun q => absurd rfl q⟩, fun z => t_X11_tell_66 ⟨Or.inr rfl, fun q => absurd q (by decide), fun _ => ?_⟩⟩
      · exact fin 0 (by rw [if_pos z])
      · exact fin 1 (by rw [if_neg z])
    have su := so_upd h.ok ht hb
    refine ⟨fun z => key _ ?_, fun z => key _ ?_⟩
    · rw [su, if_pos (hy0 z)]
    · rw [su, if_neg (by rw [hy1 z]; decide)]
  · exact e_X12_tell (fun M1 e1 => s_X12_noThing (n := tN (M.1 1)) (by rw [e1]; exact t6.1) (by omega) (fun z => absurd z c) (fun _ => s_throws1 (z1A (t_X12_tell_52 (t_X12_tell_53 ⟨Or.inl rfl, by rw [e1]; exact bad_endb h hK (by decide)⟩)))))
end OPB
