/-! ===== the loop over the script ===== -/
section LOOP
variable {E : zEv} {D : Nat} {px : String → zM → Prop} {M1 : zM} {JX : zJ} {as : List Value}
theorem gR {W B : zM → Prop} {r : Int32} (h : opR E JX D as W r M1) : zCi E JX D 0 as M1 (fun b M2 => zCi E jX12_thrown D 0 [.ref 0] M2 (fun th M3 => ((th = r → ((¬ r = 0 → W M3) ∧ (r = 0 → ((lg_cmp (M3.2 18 ((0 : Int32)).toNatClampNeg) b.toInt64 = 0 → W M3) ∧ (¬ lg_cmp (M3.2 18 ((0 : Int32)).toNatClampNeg) b.toInt64 = 0 → B M3))))) ∧ (¬ th = r → B M3))) px) px := zCi.mono (h px) (fun b M2 q => e_X12_thrown (op_glue q.1 q.2.1 q.2.2))
theorem gRb {W B : zM → Prop} {V : Int64 → Int64 → zM → Prop} {r : Int32} (h : opRb E JX D as W r M1) (hV : ∀ x M, W M → V x x M) : zCi E JX D 0 as M1 (fun b M2 => zCi E jX12_thrown D 0 [.ref 0] M2 (fun th M3 => ((th = r → ((¬ r = 0 → W M3) ∧ (r = 0 → ((b = 0 → V 0 (M3.2 18 ((0 : Int32)).toNatClampNeg) M3) ∧ (¬ b = 0 → V 1 (M3.2 18 ((0 : Int32)).toNatClampNeg) M3))))) ∧ (¬ th = r → B M3))) px) px := zCi.mono (h px) (fun b M2 q => e_X12_thrown ⟨fun _ => ⟨fun _ => q.2.2, fun c => ⟨fun z => by
    have e : M2.2 18 ((0 : Int32)).toNatClampNeg = 0 := (q.2.1 c).1 z
    rw [e]; exact hV _ _ q.2.2, fun z => by
    have e : M2.2 18 ((0 : Int32)).toNatClampNeg = 1 := (q.2.1 c).2 z
    rw [e]; exact hV _ _ q.2.2⟩⟩, fun z => absurd q.1 z⟩)
theorem gNn {W B : zM → Prop} {a : Int32} (h : opN E JX D as W a M1) : zCi E JX D 0 as M1 (fun b M2 => ((a = b → W M2) ∧ (¬ a = b → B M2))) px := zCi.mono (h px) (fun b M2 q => ⟨fun _ => q.2, fun z => absurd q.1 z⟩)
end LOOP
section LOOP2
variable {E : zEv} {D : Nat} {post : Int32 → zM → Prop} {px : String → zM → Prop}
theorem lp_tell {k : Nat} {y s0 s1 : Int32} {M : zM} (hk : k + 8 ≤ 4096) (v1 : vp_in (y + 1) (zLn E)) (v2 : vp_in (y + 2) (zLn E)) (e1 : zxs E ((y + 1)).toNatClampNeg = s1) (e0 : zxs E ((y + 2)).toNatClampNeg = 0 ∧ s0 = 0 ∨ ¬ zxs E ((y + 2)).toNatClampNeg = 0 ∧ s0 = 1) (h : Rel M) (nx : ∀ M', Rel M' → w_L_law__3090 E (D + 60) 4096 post px (k + 1) y M') : w_L_law__1116 E (D + 60) 4096 post px k y s0 s1 M := by
  have hk0 : k + 4 ≤ 4096 := by omega
  have hk1 : (k + 1) + 4 ≤ 4096 := by omega
  refine t_L_law__1116 hk0 (zCWi.mono (op_tell h (fun M' r' => t_L_law__1183 hk1 (nx M' r'))) (fun r M1 q => ⟨v1, v2, ?_⟩))
  rw [e1]
  rcases e0 with ⟨z, rfl⟩ | ⟨z, rfl⟩
  · exact ⟨fun _ => t_L_law__1143 hk1 (gRb q (fun x M w => t_L_law__1177 hk1 ⟨fun _ => w, fun z => absurd (cmp_self x) z⟩)), fun c => absurd z c⟩
  · exact ⟨fun c => absurd c z, fun _ => t_L_law__1143 hk1 (gRb q (fun x M w => t_L_law__1177 hk1 ⟨fun _ => w, fun z => absurd (cmp_self x) z⟩))⟩
theorem lp_trial {k : Nat} {y s0 s1 : Int32} {M : zM} (hk : k + 8 ≤ 4096) (v1 : vp_in (y + 1) (zLn E)) (v2 : vp_in (y + 2) (zLn E)) (e1 : zxs E ((y + 1)).toNatClampNeg = s1) (e0 : zxs E ((y + 2)).toNatClampNeg = 0 ∧ s0 = 0 ∨ ¬ zxs E ((y + 2)).toNatClampNeg = 0 ∧ s0 = 1) (h : Rel M) (nx : ∀ M', Rel M' → w_L_law__3090 E (D + 60) 4096 post px (k + 1) y M') : w_L_law__2704 E (D + 60) 4096 post px k y s0 s1 M := by
  have hk0 : k + 4 ≤ 4096 := by omega
  have hk1 : (k + 1) + 4 ≤ 4096 := by omega
  refine t_L_law__2704 hk0 (zCWi.mono (op_trial h (fun M' r' => t_L_law__2764 hk1 (nx M' r'))) (fun r M1 q => ⟨v1, v2, ?_⟩))
  rw [e1]
  rcases e0 with ⟨z, rfl⟩ | ⟨z, rfl⟩
  · exact ⟨fun _ => t_L_law__2731 hk1 (gR q), fun c => absurd z c⟩
  · exact ⟨fun c => absurd c z, fun _ => t_L_law__2731 hk1 (gR q)⟩
theorem lp_span {k : Nat} {y s0 s1 : Int32} {M : zM} (hk : k + 8 ≤ 4096) (v1 : vp_in (y + 1) (zLn E)) (v2 : vp_in (y + 2) (zLn E)) (e1 : zxs E ((y + 1)).toNatClampNeg = s1) (e0 : zxs E ((y + 2)).toNatClampNeg = 0 ∧ s0 = 0 ∨ ¬ zxs E ((y + 2)).toNatClampNeg = 0 ∧ s0 = 1) (h : Rel M) (nx : ∀ M', Rel M' → w_L_law__3090 E (D + 60) 4096 post px (k + 1) y M') : w_L_law__2788 E (D + 60) 4096 post px k y s0 s1 M := by
  have hk0 : k + 4 ≤ 4096 := by omega
  have hk1 : (k + 1) + 4 ≤ 4096 := by omega
  refine t_L_law__2788 hk0 (zCWi.mono (op_span h (fun M' r' => t_L_law__2848 hk1 (nx M' r'))) (fun r M1 q => ⟨v1, v2, ?_⟩))
  rw [e1]
  rcases e0 with ⟨z, rfl⟩ | ⟨z, rfl⟩
  · exact ⟨fun _ => t_L_law__2815 hk1 (gR q), fun c => absurd z c⟩
  · exact ⟨fun c => absurd c z, fun _ => t_L_law__2815 hk1 (gR q)⟩
theorem lp_led {k : Nat} {y s0 s1 : Int32} {M : zM} (hk : k + 8 ≤ 4096) (v1 : vp_in (y + 1) (zLn E)) (v2 : vp_in (y + 2) (zLn E)) (e1 : zxs E ((y + 1)).toNatClampNeg = s1) (e0 : zxs E ((y + 2)).toNatClampNeg = 0 ∧ s0 = 0 ∨ ¬ zxs E ((y + 2)).toNatClampNeg = 0 ∧ s0 = 1) (h : Rel M) (nx : ∀ M', Rel M' → w_L_law__3090 E (D + 60) 4096 post px (k + 1) y M') : w_L_law__2872 E (D + 60) 4096 post px k y s0 s1 M := by
  have hk0 : k + 4 ≤ 4096 := by omega
  have hk1 : (k + 1) + 4 ≤ 4096 := by omega
  refine t_L_law__2872 hk0 (zCWi.mono (op_led h (fun M' r' => t_L_law__2932 hk1 (nx M' r'))) (fun r M1 q => ⟨v1, v2, ?_⟩))
  rw [e1]
  rcases e0 with ⟨z, rfl⟩ | ⟨z, rfl⟩
  · exact ⟨fun _ => t_L_law__2899 hk1 (gR q), fun c => absurd z c⟩
  · exact ⟨fun c => absurd c z, fun _ => t_L_law__2899 hk1 (gR q)⟩
theorem lp_loop (hL : zLn E ≤ 3072) (hpost : ∀ M, post 1 M) : ∀ (m i k : Nat) (M : zM), zLn E < i + 6 * m + 6 → k ≤ i → i ≤ 3072 → Rel M → w_L_law__23 E (D + 60) 4096 post px k (nI i) M := by
  intro m
  induction m with
  | zero =>
    intro i k M hm hk hi h
    have lt : Int32.ofNat (zLn E) - 6 < nI i := by
      rw [fa_lt, show (Int32.ofNat (zLn E) - 6).toInt = (zLn E : Int) - 6 from pk_sub_toInt (a := zLn E) (b := 6) (by omega) (by decide), nI_toInt (by omega)]
      omega
    exact t_L_law__23 (by omega) ⟨fun _ => hpost M, fun z => absurd lt z⟩
  | succ m ih =>
    intro i k M hm hk hi h
    have hk0 : k + 4 ≤ 4096 := by omega
    have hk1 : (k + 1) + 4 ≤ 4096 := by omega
    have hk2 : (k + 2) + 4 ≤ 4096 := by omega
    have hk3 : (k + 3) + 4 ≤ 4096 := by omega
    by_cases c : zLn E < i + 6
    · have lt : Int32.ofNat (zLn E) - 6 < nI i := by
        rw [fa_lt, show (Int32.ofNat (zLn E) - 6).toInt = (zLn E : Int) - 6 from pk_sub_toInt (a := zLn E) (b := 6) (by omega) (by decide), nI_toInt (by omega)]
        omega
      exact t_L_law__23 hk0 ⟨fun _ => hpost M, fun z => absurd lt z⟩
    have nlt : ¬ Int32.ofNat (zLn E) - 6 < nI i := by
      rw [fa_lt, show (Int32.ofNat (zLn E) - 6).toInt = (zLn E : Int) - 6 from pk_sub_toInt (a := zLn E) (b := 6) (by omega) (by decide), nI_toInt (by omega)]
      omega
    have nx : ∀ k', k' ≤ k + 3 → ∀ M', Rel M' → w_L_law__3090 E (D + 60) 4096 post px k' (nI i) M' := fun k' hk' M' h' => t_L_law__3090 (by omega) (by
      rw [show nI i + 6 = nI (i + 6) from nI_add i 6]
      exact ih (i + 6) k' M' (by omega) (by omega) (by omega) h')
    have v0 : vp_in (nI i) (zLn E) := pk_in i _ (by omega)
    have v1 : vp_in (nI i + 1) (zLn E) := pk_in (i + 1) _ (by omega) (nI_add i 1)
    have v2 : vp_in (nI i + 2) (zLn E) := pk_in (i + 2) _ (by omega) (nI_add i 2)
    have v3 : vp_in (nI i + 3) (zLn E) := pk_in (i + 3) _ (by omega) (nI_add i 3)
    have v4 : vp_in (nI i + 4) (zLn E) := pk_in (i + 4) _ (by omega) (nI_add i 4)
    have v5 : vp_in (nI i + 5) (zLn E) := pk_in (i + 5) _ (by omega) (nI_add i 5)
    refine t_L_law__23 hk0 ⟨fun z => absurd z nlt, fun _ => ⟨v0, ?_⟩⟩
    refine ⟨fun _ => ?_, fun _ => ?_⟩
    · exact ⟨v1, v2, v3, v4, v5, zCi.mono (op_feed h (nx k (by omega))) (fun r M1 q => ⟨v1, v2, v3, v4, v5, gNn q⟩)⟩
    refine ⟨fun _ => ?_, fun _ => ?_⟩
    · exact ⟨v1, zCi.mono (op_end h (nx k (by omega))) (fun r M1 q => ⟨v1, gNn q⟩)⟩
    refine ⟨fun _ => ?_, fun _ => ?_⟩
    · exact zCWi.mono (op_court h (fun M' r' => t_L_law__427 hk1 (nx (k + 1) (by omega) M' r'))) (fun r M1 q => gR q)
    refine ⟨fun _ => ?_, fun _ => ?_⟩
    · exact zCWi.mono (op_law h (fun M' r' => t_L_law__471 hk1 (nx (k + 1) (by omega) M' r'))) (fun r M1 q => gR q)
    refine ⟨fun _ => ?_, fun _ => ?_⟩
    · exact zCi.mono (op_fault h (nx k (by omega))) (fun r M1 q => gNn q)
    refine ⟨fun _ => ?_, fun _ => ?_⟩
    · exact ⟨v1, v2, zCWi.mono (op_witness h (fun M' r' => t_L_law__552 hk2 (nx (k + 2) (by omega) M' r'))) (fun r M1 q => ⟨v1, v2, gR q⟩)⟩
    refine ⟨fun _ => ?_, fun _ => ?_⟩
    · exact ⟨v1, v2, zCWi.mono (op_thing h (fun M' r' => t_L_law__620 hk2 (nx (k + 2) (by omega) M' r'))) (fun r M1 q => ⟨v1, v2, gR q⟩)⟩
    refine ⟨fun _ => ?_, fun _ => ?_⟩
    · exact ⟨v1, zCWi.mono (op_asks h (fun M' r' => t_L_law__676 hk1 (nx (k + 1) (by omega) M' r'))) (fun r M1 q => ⟨v1, gR q⟩)⟩
    refine ⟨fun _ => ?_, fun _ => ?_⟩
    · exact ⟨v1, zCWi.mono (op_sharp h (fun M' r' => t_L_law__732 hk1 (nx (k + 1) (by omega) M' r'))) (fun r M1 q => ⟨v1, gR q⟩)⟩
    refine ⟨fun _ => ?_, fun _ => ?_⟩
    · exact ⟨v1, zCWi.mono (op_stands h (fun M' r' => t_L_law__788 hk1 (nx (k + 1) (by omega) M' r'))) (fun r M1 q => ⟨v1, gR q⟩)⟩
    refine ⟨fun _ => ?_, fun _ => ?_⟩
    · exact ⟨v1, zCWi.mono (op_moments h (fun M' r' => t_L_law__844 hk1 (nx (k + 1) (by omega) M' r'))) (fun r M1 q => ⟨v1, gR q⟩)⟩
    refine ⟨fun _ => ?_, fun _ => ?_⟩
    · exact ⟨v1, zCWi.mono (op_say h (fun M' r' => t_L_law__900 hk1 (nx (k + 1) (by omega) M' r'))) (fun r M1 q => ⟨v1, gR q⟩)⟩
    refine ⟨fun _ => ?_, fun _ => ?_⟩
    · exact ⟨v1, v2, zCWi.mono (op_change h (fun M' r' => t_L_law__968 hk3 (nx (k + 3) (by omega) M' r'))) (fun r M1 q => ⟨v1, v2, gR q⟩)⟩
    refine ⟨fun _ => ?_, fun _ => ?_⟩
    · exact ⟨v1, v2, zCWi.mono (op_drink h (fun M' r' => t_L_law__1036 hk2 (nx (k + 2) (by omega) M' r'))) (fun r M1 q => ⟨v1, v2, gR q⟩)⟩
    refine ⟨fun _ => ?_, fun _ => ?_⟩
    · exact ⟨v1, zCWi.mono (op_heat h (fun M' r' => t_L_law__1092 hk1 (nx (k + 1) (by omega) M' r'))) (fun r M1 q => ⟨v1, gR q⟩)⟩
    refine ⟨fun _ => ?_, fun _ => ?_⟩
    · exact ⟨v1, v2, fun z => lp_tell (by omega) v1 v2 rfl (Or.inl ⟨z, rfl⟩) h (nx (k + 1) (by omega)), fun z => lp_tell (by omega) v1 v2 rfl (Or.inr ⟨z, rfl⟩) h (nx (k + 1) (by omega))⟩
    refine ⟨fun _ => ?_, fun _ => ?_⟩
    · exact ⟨v1, v2, zCWi.mono (op_words h (fun M' r' => t_L_law__1251 hk2 (nx (k + 2) (by omega) M' r'))) (fun r M1 q => ⟨v1, v2, gR q⟩)⟩
    refine ⟨fun _ => ?_, fun _ => ?_⟩
    · exact ⟨v1, zCWi.mono (op_powder h (fun M' r' => t_L_law__1307 hk1 (nx (k + 1) (by omega) M' r'))) (fun r M1 q => ⟨v1, gR q⟩)⟩
    refine ⟨fun _ => ?_, fun _ => ?_⟩
    · exact ⟨v1, v2, zCWi.mono (op_rises h (fun M' r' => t_L_law__1375 hk2 (nx (k + 2) (by omega) M' r'))) (fun r M1 q => ⟨v1, v2, gR q⟩)⟩
    refine ⟨fun _ => ?_, fun _ => ?_⟩
    · exact ⟨v1, v2, zCWi.mono (op_seen h (fun M' r' => t_L_law__1443 hk2 (nx (k + 2) (by omega) M' r'))) (fun r M1 q => ⟨v1, v2, gR q⟩)⟩
    refine ⟨fun _ => ?_, fun _ => ?_⟩
    · exact ⟨v1, zCWi.mono (op_gives h (fun M' r' => t_L_law__1499 hk1 (nx (k + 1) (by omega) M' r'))) (fun r M1 q => ⟨v1, gR q⟩)⟩
    refine ⟨fun _ => ?_, fun _ => ?_⟩
    · exact ⟨v1, v2, zCWi.mono (op_writes h (fun M' r' => t_L_law__1567 hk2 (nx (k + 2) (by omega) M' r'))) (fun r M1 q => ⟨v1, v2, gR q⟩)⟩
    refine ⟨fun _ => ?_, fun _ => ?_⟩
    · exact zCi.mono (op_pale h (nx k (by omega))) (fun r M1 q => gNn q)
    refine ⟨fun _ => ?_, fun _ => ?_⟩
    · exact zCi.mono (op_reddest h (nx k (by omega))) (fun r M1 q => gNn q)
    refine ⟨fun _ => ?_, fun _ => ?_⟩
    · exact zCi.mono (op_palest h (nx k (by omega))) (fun r M1 q => gNn q)
    refine ⟨fun _ => ?_, fun _ => ?_⟩
    · exact zCWi.mono (op_fits h (fun M' r' => t_L_law__1650 hk1 (nx (k + 1) (by omega) M' r'))) (fun r M1 q => gR q)
    refine ⟨fun _ => ?_, fun _ => ?_⟩
    · exact zCWi.mono (op_sure h (fun M' r' => t_L_law__1694 hk1 (nx (k + 1) (by omega) M' r'))) (fun r M1 q => gR q)
    refine ⟨fun _ => ?_, fun _ => ?_⟩
    · exact zCWi.mono (op_never h (fun M' r' => t_L_law__1738 hk1 (nx (k + 1) (by omega) M' r'))) (fun r M1 q => gR q)
    refine ⟨fun _ => ?_, fun _ => ?_⟩
    · exact zCWi.mono (op_next h (fun M' r' => t_L_law__1782 hk1 (nx (k + 1) (by omega) M' r'))) (fun r M1 q => gR q)
    refine ⟨fun _ => ?_, fun _ => ?_⟩
    · exact zCi.mono (op_dark h (nx k (by omega))) (fun r M1 q => gNn q)
    refine ⟨fun _ => ?_, fun _ => ?_⟩
    · exact ⟨v1, zCWi.mono (op_tells h (fun M' r' => t_L_law__1851 hk1 (nx (k + 1) (by omega) M' r'))) (fun r M1 q => ⟨v1, gR q⟩)⟩
    refine ⟨fun _ => ?_, fun _ => ?_⟩
    · exact ⟨v1, zCWi.mono (op_shared h (fun M' r' => t_L_law__1907 hk1 (nx (k + 1) (by omega) M' r'))) (fun r M1 q => ⟨v1, gR q⟩)⟩
    refine ⟨fun _ => ?_, fun _ => ?_⟩
    · exact ⟨v1, zCWi.mono (op_apart h (fun M' r' => t_L_law__1963 hk1 (nx (k + 1) (by omega) M' r'))) (fun r M1 q => ⟨v1, gR q⟩)⟩
    refine ⟨fun _ => ?_, fun _ => ?_⟩
    · exact ⟨v1, v2, zCWi.mono (op_row h (fun M' r' => t_L_law__2031 hk2 (nx (k + 2) (by omega) M' r'))) (fun r M1 q => ⟨v1, v2, gR q⟩)⟩
    refine ⟨fun _ => ?_, fun _ => ?_⟩
    · exact zCWi.mono (op_wrong h (fun M' r' => t_L_law__2075 hk1 (nx (k + 1) (by omega) M' r'))) (fun r M1 q => gR q)
    refine ⟨fun _ => ?_, fun _ => ?_⟩
    · exact ⟨v1, zCWi.mono (op_shades h (fun M' r' => t_L_law__2131 hk2 (nx (k + 2) (by omega) M' r'))) (fun r M1 q => ⟨v1, gR q⟩)⟩
    refine ⟨fun _ => ?_, fun _ => ?_⟩
    · exact ⟨v1, v2, zCWi.mono (op_vinegar h (fun M' r' => t_L_law__2199 hk2 (nx (k + 2) (by omega) M' r'))) (fun r M1 q => ⟨v1, v2, gR q⟩)⟩
    refine ⟨fun _ => ?_, fun _ => ?_⟩
    · exact ⟨v1, v2, zCWi.mono (op_betrays h (fun M' r' => t_L_law__2274 hk3 (nx (k + 3) (by omega) M' r'))) (fun r M1 q => ⟨v1, v2, gRb q (fun x M w => t_L_law__2268 hk3 ⟨fun _ => w, fun z => absurd (cmp_self x) z⟩)⟩)⟩
    refine ⟨fun _ => ?_, fun _ => ?_⟩
    · exact zCi.mono (op_heats h (nx k (by omega))) (fun r M1 q => gNn q)
    refine ⟨fun _ => ?_, fun _ => ?_⟩
    · exact ⟨v1, zCWi.mono (op_couples h (fun M' r' => t_L_law__2343 hk1 (nx (k + 1) (by omega) M' r'))) (fun r M1 q => ⟨v1, gR q⟩)⟩
    refine ⟨fun _ => ?_, fun _ => ?_⟩
    · exact ⟨v1, v2, zCWi.mono (op_between h (fun M' r' => t_L_law__2411 hk3 (nx (k + 3) (by omega) M' r'))) (fun r M1 q => ⟨v1, v2, gR q⟩)⟩
    refine ⟨fun _ => ?_, fun _ => ?_⟩
    · exact zCi.mono (op_alone h (nx k (by omega))) (fun r M1 q => gNn q)
    refine ⟨fun _ => ?_, fun _ => ?_⟩
    · exact ⟨v1, v2, zCWi.mono (op_rests h (fun M' r' => t_L_law__2492 hk2 (nx (k + 2) (by omega) M' r'))) (fun r M1 q => ⟨v1, v2, gR q⟩)⟩
    refine ⟨fun _ => ?_, fun _ => ?_⟩
    · exact ⟨v1, v2, zCWi.mono (op_odds h (fun M' r' => t_L_law__2560 hk1 (nx (k + 1) (by omega) M' r'))) (fun r M1 q => ⟨v1, v2, gR q⟩)⟩
    refine ⟨fun _ => ?_, fun _ => ?_⟩
    · exact zCi.mono (op_weightiest h (nx k (by omega))) (fun r M1 q => gNn q)
    refine ⟨fun _ => ?_, fun _ => ?_⟩
    · exact zCi.mono (op_twins h (nx k (by omega))) (fun r M1 q => gNn q)
    refine ⟨fun _ => ?_, fun _ => ?_⟩
    · exact zCi.mono (op_blind h (nx k (by omega))) (fun r M1 q => gNn q)
    refine ⟨fun _ => ?_, fun _ => ?_⟩
    · exact zCi.mono (op_so h (nx k (by omega))) (fun r M1 q => gNn q)
    refine ⟨fun _ => ?_, fun _ => ?_⟩
    · exact ⟨v1, v2, zCWi.mono (op_ahead h (fun M' r' => t_L_law__2680 hk2 (nx (k + 2) (by omega) M' r'))) (fun r M1 q => ⟨v1, v2, gR q⟩)⟩
    refine ⟨fun _ => ?_, fun _ => ?_⟩
    · exact ⟨v1, v2, fun z => lp_trial (by omega) v1 v2 rfl (Or.inl ⟨z, rfl⟩) h (nx (k + 1) (by omega)), fun z => lp_trial (by omega) v1 v2 rfl (Or.inr ⟨z, rfl⟩) h (nx (k + 1) (by omega))⟩
    refine ⟨fun _ => ?_, fun _ => ?_⟩
    · exact ⟨v1, v2, fun z => lp_span (by omega) v1 v2 rfl (Or.inl ⟨z, rfl⟩) h (nx (k + 1) (by omega)), fun z => lp_span (by omega) v1 v2 rfl (Or.inr ⟨z, rfl⟩) h (nx (k + 1) (by omega))⟩
    refine ⟨fun _ => ?_, fun _ => ?_⟩
    · exact ⟨v1, v2, fun z => lp_led (by omega) v1 v2 rfl (Or.inl ⟨z, rfl⟩) h (nx (k + 1) (by omega)), fun z => lp_led (by omega) v1 v2 rfl (Or.inr ⟨z, rfl⟩) h (nx (k + 1) (by omega))⟩
    refine ⟨fun _ => ?_, fun _ => ?_⟩
    · exact ⟨v1, v2, zCWi.mono (op_log h (fun M' r' => t_L_law__3000 hk1 (nx (k + 1) (by omega) M' r'))) (fun r M1 q => ⟨v1, v2, gR q⟩)⟩
    refine ⟨fun _ => ?_, fun _ => ?_⟩
    · exact ⟨v1, zCi.mono (op_seed h (nx k (by omega))) (fun r M1 q => ⟨v1, gNn q⟩)⟩
    refine ⟨fun _ => ?_, fun _ => ?_⟩
    · exact zCi.mono (op_undo h (nx k (by omega))) (fun r M1 q => gNn q)
    refine ⟨fun _ => ?_, fun _ => ?_⟩
    · exact zCv.mono (op_image h (nx k (by omega))) (fun M1 q => q px)
    refine ⟨fun _ => ?_, fun _ => ?_⟩
    · exact zCi.mono (op_back h (nx k (by omega))) (fun r M1 q => gNn q)
    refine ⟨fun _ => ?_, fun _ => ?_⟩
    · exact ⟨v1, zCi.mono (op_count h (nx k (by omega))) (fun r M1 q => ⟨v1, gNn q⟩)⟩
    exact nx k (by omega) M h
end LOOP2
