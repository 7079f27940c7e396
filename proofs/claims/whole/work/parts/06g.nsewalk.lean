section ZXN
variable {E : zEv} {J : zJ} {D K pc k : Nat} {Q : zO → zM → Prop} {ls st : List Value} {M : zM}
/-- the pool entries of own by which it throws cls with a literal -/
def zThrN (own : String) (ik is ic : Nat) (cls : String) (names : List String) (i : Nat) : Prop := Bundle.fit cls = true ∧ (∀ n ∈ names, Bundle.fit n = true) ∧ names.length ≤ 3 ∧ Cond.classLink own ik cls ∈ zT ∧ Cond.initialized cls ∈ zT ∧ (∀ w ∈ zkAtS own ic cls names, w ∈ zT) ∧
  (∀ w ∈ Cond.classLink own ik cls :: Cond.initialized cls :: zkAtS own ic cls names, vx_ot w = true) ∧ ∃ (tx : String) (n : Nat), zStrs[i]? = some (own, is, tx, n)
theorem z_throwN {ik is ic i : Nat} {cls : String} {names : List String} (hz : zThrN J.1.cls ik is ic cls names i) (d0 : decode J.2.1 pc = .ok (.new ik, 3)) (d3 : decode J.2.1 (pc + 3) = .ok (.dup, 1)) (d4 : decode J.2.1 (pc + 4) = .ok (.ldc is, 2)) (d6 : decode J.2.1 (pc + 6) = .ok (.invokespecial ic, 3)) (d9 : decode J.2.1 (pc + 9) = .ok (.athrow, 1))
    (hw : (st.map fun v => v.category).sum ≤ 8) (hk : k + 1 ≤ K) (hQ : Q (.inr cls) M) (hnil : J.2.2.2.2 = [] := by rfl) : Z E J D K Q pc k ls st M := by
  intro p e s m args below meth c H locs Ls hF hP hL
  obtain ⟨z1, z2, z3, z4, z5, z6, z7, tx, n, hi⟩ := hz
  have hstr := hF.X.2.2.2.2.2.2.2.2.2.2 i _ hi
  refine zk_throw (A := zA E) hF.1 hF.2.1 hF.tr hF.own z1 z2 (hF.w z4) (hF.w z5) hstr (fun w hw => hF.w (z6 w hw)) z7 hF.X.2.2.2.1 hF.X.2.2.2.2.1 hP.2 (hL.1.trans hF.2.2.2.1.symm) d0 d3 d4 d6 d9 (fun x hx => (hF.tbl hnil x hx).elim) ?_ ?_ hk ?_ hF.locks ?_ hP.2.2.2 hk ?_
  · show names.length + 3 < D + 8
    omega
  · rw [zmap_cat]
    show _ + (13 * (names.length + 1) + 43) ≤ 64 * D + 128
    omega
  · show 6 * k + 6 ≤ 6 * K
    omega
  · intro t ht h1 h2
    refine ⟨M, hQ, hP.1.kept (fun j q hj => h2 _ ((hP.1 j q hj).lt)), ⟨Nat.le_trans hP.2.1 h1, fun q hq hA => ?_⟩⟩
    rw [h2 q (Nat.lt_of_lt_of_le hq hP.2.1)]
    exact hP.2.2.1 q hq hA
  · omega
theorem z_throwNW {ik is ic i : Nat} {cls : String} {names : List String} (hz : zThrN J.1.cls ik is ic cls names i) (d0 : decode J.2.1 pc = .ok (.new ik, 3)) (d3 : decode J.2.1 (pc + 3) = .ok (.dup, 1)) (d4 : decode J.2.1 (pc + 4) = .ok (.ldc_w is, 3)) (d7 : decode J.2.1 (pc + 7) = .ok (.invokespecial ic, 3)) (d10 : decode J.2.1 (pc + 10) = .ok (.athrow, 1))
    (hw : (st.map fun v => v.category).sum ≤ 8) (hk : k + 1 ≤ K) (hQ : Q (.inr cls) M) (hnil : J.2.2.2.2 = [] := by rfl) : Z E J D K Q pc k ls st M := by
  intro p e s m args below meth c H locs Ls hF hP hL
  obtain ⟨z1, z2, z3, z4, z5, z6, z7, tx, n, hi⟩ := hz
  have hstr := hF.X.2.2.2.2.2.2.2.2.2.2 i _ hi
  refine zk_throwW (A := zA E) hF.1 hF.2.1 hF.tr hF.own z1 z2 (hF.w z4) (hF.w z5) hstr (fun w hw => hF.w (z6 w hw)) z7 hF.X.2.2.2.1 hF.X.2.2.2.2.1 hP.2 (hL.1.trans hF.2.2.2.1.symm) d0 d3 d4 d7 d10 (fun x hx => (hF.tbl hnil x hx).elim) ?_ ?_ hk ?_ hF.locks ?_ hP.2.2.2 hk ?_
  · show names.length + 3 < D + 8
    omega
  · rw [zmap_cat]
    show _ + (13 * (names.length + 1) + 43) ≤ 64 * D + 128
    omega
  · show 6 * k + 6 ≤ 6 * K
    omega
  · intro t ht h1 h2
    refine ⟨M, hQ, hP.1.kept (fun j q hj => h2 _ ((hP.1 j q hj).lt)), ⟨Nat.le_trans hP.2.1 h1, fun q hq hA => ?_⟩⟩
    rw [h2 q (Nat.lt_of_lt_of_le hq hP.2.1)]
    exact hP.2.2.1 q hq hA
  · omega
end ZXN
theorem zw_968 : (Cond.classLink "BlushCourt" 175 "java/util/NoSuchElementException") ∈ zT := zq_5 8 rfl rfl
theorem zw_26 : (Cond.initialized "java/util/NoSuchElementException") ∈ zT := zq_1 26 rfl rfl
theorem zatn_X11_179 : ∀ w ∈ zkAtS RX11 179 "java/util/NoSuchElementException" ["java/lang/RuntimeException", "java/lang/Exception"], w ∈ zT := zall_zT (by decide +kernel)
theorem ztn_X11_175_177 : zThrN RX11 175 177 179 "java/util/NoSuchElementException" ["java/lang/RuntimeException", "java/lang/Exception"] 37 := ⟨by decide +kernel, by decide +kernel, by decide, zw_968, zw_26, zatn_X11_179, by decide +kernel, _, _, rfl⟩
theorem ztn_X11_175_199 : zThrN RX11 175 199 179 "java/util/NoSuchElementException" ["java/lang/RuntimeException", "java/lang/Exception"] 39 := ⟨by decide +kernel, by decide +kernel, by decide, zw_968, zw_26, zatn_X11_179, by decide +kernel, _, _, rfl⟩
theorem ztn_X11_175_408 : zThrN RX11 175 408 179 "java/util/NoSuchElementException" ["java/lang/RuntimeException", "java/lang/Exception"] 49 := ⟨by decide +kernel, by decide +kernel, by decide, zw_968, zw_26, zatn_X11_179, by decide +kernel, _, _, rfl⟩
theorem e_X11_witness {E : zEv} {D : Nat} {post : Int32 → zM → Prop} {px : String → zM → Prop} {M : zM} {x1 : Int32} {x2 : Int32}  (h : zCv E jX11_needWitness D 1 [.ref 19, .int x1] M (fun M1 => ((x2 = (0 : Int32) → vp_in x1 5 ∧ post (M1.1 63 (x1).toNatClampNeg) M1) ∧ (¬ x2 = (0 : Int32) → ((x2 = (1 : Int32) → vp_in x1 5 ∧ post (M1.1 64 (x1).toNatClampNeg) M1) ∧ (¬ x2 = (1 : Int32) → ((x2 = (2 : Int32) → vp_in x1 5 ∧ post (M1.1 65 (x1).toNatClampNeg) M1) ∧ (¬ x2 = (2 : Int32) → ((x2 = (3 : Int32) → vp_in x1 5 ∧ post (M1.1 66 (x1).toNatClampNeg) M1) ∧ (¬ x2 = (3 : Int32) → ((x2 = (4 : Int32) → vp_in x1 5 ∧ post (M1.1 67 (x1).toNatClampNeg) M1) ∧ (¬ x2 = (4 : Int32) → ((x2 = (5 : Int32) → zCi E jX1_fallsBy D 0 [.ref 43, .ref 61, .int x1] M1 (fun r32 M30 => post r32 M30) px) ∧ (¬ x2 = (5 : Int32) → ((x2 = (6 : Int32) → zCi E jX11_shareOf D 0 [.ref 19, .int x1] M1 (fun r38 M36 => post r38 M36) px) ∧ (¬ x2 = (6 : Int32) → ((x2 = (7 : Int32) → zCi E jX3_touching D 0 [.ref 61, .int x1] M1 (fun r44 M42 => post r44 M42) px) ∧ (¬ x2 = (7 : Int32) → ((x2 = (8 : Int32) → zCi E jX11_foundOut D 0 [.ref 19, .int x1] M1 (fun r50 M48 => post r50 M48) px) ∧ (¬ x2 = (8 : Int32) → px "java/util/NoSuchElementException" M1))))))))))))))))))) px) : zCi E jX11_witness (D + 1) 2 [.ref 19, .int x1, .int x2] M post px := by
  refine z_meth (by decide) (Nat.le_of_ble_eq_true rfl) ?_
  show Z E jX11_witness (D + 1) 2 (zQi post px) 0 0 [.ref 19, .int x1, .int x2, zU] [] M
  refine z_aload_n dX11_witness_0 rfl ?_
  refine z_iload_n dX11_witness_1 rfl ?_
  refine z_callVv (As := [.int x1]) (st := []) dX11_witness_2 zi_X11_136 rfl rfl zs_19 rfl rfl (Nat.le_of_ble_eq_true rfl) (by decide) (fun _ _ hx => hx) h ?_
  intro M1 h2
  refine z_aload_n dX11_witness_5 rfl ?_
  refine z_getR dX11_witness_6 zg_X11_29 zs_19 rfl ?_
  refine z_getR dX11_witness_9 zg_X11_139 zs_61 rfl ?_
  refine z_astore_n dX11_witness_12 (by decide) (ls' := [.ref 19, .int x1, .int x2, .ref 62]) rfl ?_
  refine z_iload_n dX11_witness_13 rfl ?_
  by_cases g3 : x2 = (0 : Int32)
  · have h4 := h2.1 g3
    refine z_tableIn (tgt := 64) dX11_witness_14 (by rw [g3]; decide) (by rw [g3]; decide) (by rw [g3]; rfl) (by decide) ?_
    refine z_aload_n dX11_witness_64 rfl ?_
    refine z_getR dX11_witness_65 zg_X11_143 zs_62 rfl ?_
    refine z_iload_n dX11_witness_68 rfl ?_
    obtain ⟨g6, h5⟩ := h4
    refine z_iald dX11_witness_69 zs_63 g6 ?_
    exact z_iret dX11_witness_70 rfl rfl (by decide) h5
  have h7 := h2.2 g3
  by_cases g8 : x2 = (1 : Int32)
  · have h9 := h7.1 g8
    refine z_tableIn (tgt := 71) dX11_witness_14 (by rw [g8]; decide) (by rw [g8]; decide) (by rw [g8]; rfl) (by decide) ?_
    refine z_aload_n dX11_witness_71 rfl ?_
    refine z_getR dX11_witness_72 zg_X11_149 zs_62 rfl ?_
    refine z_iload_n dX11_witness_75 rfl ?_
    obtain ⟨g11, h10⟩ := h9
    refine z_iald dX11_witness_76 zs_64 g11 ?_
    exact z_iret dX11_witness_77 rfl rfl (by decide) h10
  have h12 := h7.2 g8
  by_cases g13 : x2 = (2 : Int32)
  · have h14 := h12.1 g13
    refine z_tableIn (tgt := 78) dX11_witness_14 (by rw [g13]; decide) (by rw [g13]; decide) (by rw [g13]; rfl) (by decide) ?_
    refine z_aload_n dX11_witness_78 rfl ?_
    refine z_getR dX11_witness_79 zg_X11_152 zs_62 rfl ?_
    refine z_iload_n dX11_witness_82 rfl ?_
    obtain ⟨g16, h15⟩ := h14
    refine z_iald dX11_witness_83 zs_65 g16 ?_
    exact z_iret dX11_witness_84 rfl rfl (by decide) h15
  have h17 := h12.2 g13
  by_cases g18 : x2 = (3 : Int32)
  · have h19 := h17.1 g18
    refine z_tableIn (tgt := 85) dX11_witness_14 (by rw [g18]; decide) (by rw [g18]; decide) (by rw [g18]; rfl) (by decide) ?_
    refine z_aload_n dX11_witness_85 rfl ?_
    refine z_getR dX11_witness_86 zg_X11_155 zs_62 rfl ?_
    refine z_iload_n dX11_witness_89 rfl ?_
    obtain ⟨g21, h20⟩ := h19
    refine z_iald dX11_witness_90 zs_66 g21 ?_
    exact z_iret dX11_witness_91 rfl rfl (by decide) h20
  have h22 := h17.2 g18
  by_cases g23 : x2 = (4 : Int32)
  · have h24 := h22.1 g23
    refine z_tableIn (tgt := 92) dX11_witness_14 (by rw [g23]; decide) (by rw [g23]; decide) (by rw [g23]; rfl) (by decide) ?_
    refine z_aload_n dX11_witness_92 rfl ?_
    refine z_getR dX11_witness_93 zg_X11_158 zs_62 rfl ?_
    refine z_iload_n dX11_witness_96 rfl ?_
    obtain ⟨g26, h25⟩ := h24
    refine z_iald dX11_witness_97 zs_67 g26 ?_
    exact z_iret dX11_witness_98 rfl rfl (by decide) h25
  have h27 := h22.2 g23
  by_cases g28 : x2 = (5 : Int32)
  · have h29 := h27.1 g28
    refine z_tableIn (tgt := 99) dX11_witness_14 (by rw [g28]; decide) (by rw [g28]; decide) (by rw [g28]; rfl) (by decide) ?_
    refine z_aload_n dX11_witness_99 rfl ?_
    refine z_getR dX11_witness_100 zg_X11_49 zs_19 rfl ?_
    refine z_aload_n dX11_witness_103 rfl ?_
    refine z_getR dX11_witness_104 zg_X11_29 zs_19 rfl ?_
    refine z_iload_n dX11_witness_107 rfl ?_
    refine z_callVi (As := [.ref 61, .int x1]) (st := []) dX11_witness_108 zi_X11_161 rfl rfl zs_43 rfl rfl (Nat.le_of_ble_eq_true rfl) (by decide) (fun _ _ hx => hx) h29 ?_
    intro r32 M30 h31
    exact z_iret dX11_witness_111 rfl rfl (by decide) h31
  have h33 := h27.2 g28
  by_cases g34 : x2 = (6 : Int32)
  · have h35 := h33.1 g34
    refine z_tableIn (tgt := 112) dX11_witness_14 (by rw [g34]; decide) (by rw [g34]; decide) (by rw [g34]; rfl) (by decide) ?_
    refine z_aload_n dX11_witness_112 rfl ?_
    refine z_iload_n dX11_witness_113 rfl ?_
    refine z_callVi (As := [.int x1]) (st := []) dX11_witness_114 zi_X11_165 rfl rfl zs_19 rfl rfl (Nat.le_of_ble_eq_true rfl) (by decide) (fun _ _ hx => hx) h35 ?_
    intro r38 M36 h37
    exact z_iret dX11_witness_117 rfl rfl (by decide) h37
  have h39 := h33.2 g34
  by_cases g40 : x2 = (7 : Int32)
  · have h41 := h39.1 g40
    refine z_tableIn (tgt := 118) dX11_witness_14 (by rw [g40]; decide) (by rw [g40]; decide) (by rw [g40]; rfl) (by decide) ?_
    refine z_aload_n dX11_witness_118 rfl ?_
    refine z_getR dX11_witness_119 zg_X11_29 zs_19 rfl ?_
    refine z_iload_n dX11_witness_122 rfl ?_
    refine z_callVi (As := [.int x1]) (st := []) dX11_witness_123 zi_X11_169 rfl rfl zs_61 rfl rfl (Nat.le_of_ble_eq_true rfl) (by decide) (fun _ _ hx => hx) h41 ?_
    intro r44 M42 h43
    exact z_iret dX11_witness_126 rfl rfl (by decide) h43
  have h45 := h39.2 g40
  by_cases g46 : x2 = (8 : Int32)
  · have h47 := h45.1 g46
    refine z_tableIn (tgt := 127) dX11_witness_14 (by rw [g46]; decide) (by rw [g46]; decide) (by rw [g46]; rfl) (by decide) ?_
    refine z_aload_n dX11_witness_127 rfl ?_
    refine z_iload_n dX11_witness_128 rfl ?_
    refine z_callVi (As := [.int x1]) (st := []) dX11_witness_129 zi_X11_172 rfl rfl zs_19 rfl rfl (Nat.le_of_ble_eq_true rfl) (by decide) (fun _ _ hx => hx) h47 ?_
    intro r50 M48 h49
    exact z_iret dX11_witness_132 rfl rfl (by decide) h49
  have h51 := h45.2 g46
  refine z_tableOut (tgt := 133) dX11_witness_14 (by have := zne_toInt g3 (by decide : ((0 : Int32)).toInt = 0); have := zne_toInt g8 (by decide : ((1 : Int32)).toInt = 1); have := zne_toInt g13 (by decide : ((2 : Int32)).toInt = 2); have := zne_toInt g18 (by decide : ((3 : Int32)).toInt = 3); have := zne_toInt g23 (by decide : ((4 : Int32)).toInt = 4); have := zne_toInt g28 (by decide : ((5 : Int32)).toInt = 5); have := zne_toInt g34 (by decide : ((6 : Int32)).toInt = 6); have := zne_toInt g40 (by decide : ((7 : Int32)).toInt = 7); have := zne_toInt g46 (by decide : ((8 : Int32)).toInt = 8); omega) (by decide) ?_
  exact z_throwN ztn_X11_175_177 dX11_witness_133 dX11_witness_136 dX11_witness_137 dX11_witness_139 dX11_witness_142 (Nat.le_of_ble_eq_true rfl) (by decide) h51
theorem e_X11_thing {E : zEv} {D : Nat} {post : Int32 → zM → Prop} {px : String → zM → Prop} {M : zM} {x1 : Int32} {x2 : Int32}  (h : zCv E jX11_needThing D 1 [.ref 19, .int x1] M (fun M1 => ((x2 = (0 : Int32) → vp_in x1 6 ∧ post (M1.1 71 (x1).toNatClampNeg) M1) ∧ (¬ x2 = (0 : Int32) → ((x2 = (1 : Int32) → vp_in x1 6 ∧ post (M1.1 72 (x1).toNatClampNeg) M1) ∧ (¬ x2 = (1 : Int32) → ((x2 = (2 : Int32) → post (((M1.1 61 10) >>> (x1 &&& 31)) &&& (1 : Int32)) M1) ∧ (¬ x2 = (2 : Int32) → ((x2 = (3 : Int32) → zCi E jX3_leaning D 0 [.ref 61, .int x1] M1 (fun r20 M18 => post r20 M18) px) ∧ (¬ x2 = (3 : Int32) → ((x2 = (4 : Int32) → zCi E jX10_knownBy D 0 [.ref 48, .ref 43, .ref 61, .int x1] M1 (fun r26 M24 => post r26 M24) px) ∧ (¬ x2 = (4 : Int32) → px "java/util/NoSuchElementException" M1))))))))))) px) : zCi E jX11_thing (D + 1) 2 [.ref 19, .int x1, .int x2] M post px := by
  refine z_meth (by decide) (Nat.le_of_ble_eq_true rfl) ?_
  show Z E jX11_thing (D + 1) 2 (zQi post px) 0 0 [.ref 19, .int x1, .int x2] [] M
  refine z_aload_n dX11_thing_0 rfl ?_
  refine z_iload_n dX11_thing_1 rfl ?_
  refine z_callVv (As := [.int x1]) (st := []) dX11_thing_2 zi_X11_180 rfl rfl zs_19 rfl rfl (Nat.le_of_ble_eq_true rfl) (by decide) (fun _ _ hx => hx) h ?_
  intro M1 h2
  refine z_iload_n dX11_thing_5 rfl ?_
  by_cases g3 : x2 = (0 : Int32)
  · have h4 := h2.1 g3
    refine z_tableIn (tgt := 40) dX11_thing_6 (by rw [g3]; decide) (by rw [g3]; decide) (by rw [g3]; rfl) (by decide) ?_
    refine z_aload_n dX11_thing_40 rfl ?_
    refine z_getR dX11_thing_41 zg_X11_29 zs_19 rfl ?_
    refine z_getR dX11_thing_44 zg_X11_183 zs_61 rfl ?_
    refine z_iload_n dX11_thing_47 rfl ?_
    obtain ⟨g6, h5⟩ := h4
    refine z_iald dX11_thing_48 zs_71 g6 ?_
    exact z_iret dX11_thing_49 rfl rfl (by decide) h5
  have h7 := h2.2 g3
  by_cases g8 : x2 = (1 : Int32)
  · have h9 := h7.1 g8
    refine z_tableIn (tgt := 50) dX11_thing_6 (by rw [g8]; decide) (by rw [g8]; decide) (by rw [g8]; rfl) (by decide) ?_
    refine z_aload_n dX11_thing_50 rfl ?_
    refine z_getR dX11_thing_51 zg_X11_29 zs_19 rfl ?_
    refine z_getR dX11_thing_54 zg_X11_186 zs_61 rfl ?_
    refine z_iload_n dX11_thing_57 rfl ?_
    obtain ⟨g11, h10⟩ := h9
    refine z_iald dX11_thing_58 zs_72 g11 ?_
    exact z_iret dX11_thing_59 rfl rfl (by decide) h10
  have h12 := h7.2 g8
  by_cases g13 : x2 = (2 : Int32)
  · have h14 := h12.1 g13
    refine z_tableIn (tgt := 60) dX11_thing_6 (by rw [g13]; decide) (by rw [g13]; decide) (by rw [g13]; rfl) (by decide) ?_
    refine z_aload_n dX11_thing_60 rfl ?_
    refine z_getR dX11_thing_61 zg_X11_29 zs_19 rfl ?_
    refine z_getI dX11_thing_64 zg_X11_189 zs_61 rfl ?_
    refine z_iload_n dX11_thing_67 rfl ?_
    refine z_ishr dX11_thing_68 ?_
    refine z_iconst (v := (1 : Int32)) dX11_thing_69 rfl ?_
    refine z_iand dX11_thing_70 ?_
    exact z_iret dX11_thing_71 rfl rfl (by decide) h14
  have h15 := h12.2 g13
  by_cases g16 : x2 = (3 : Int32)
  · have h17 := h15.1 g16
    refine z_tableIn (tgt := 72) dX11_thing_6 (by rw [g16]; decide) (by rw [g16]; decide) (by rw [g16]; rfl) (by decide) ?_
    refine z_aload_n dX11_thing_72 rfl ?_
    refine z_getR dX11_thing_73 zg_X11_29 zs_19 rfl ?_
    refine z_iload_n dX11_thing_76 rfl ?_
    refine z_callVi (As := [.int x1]) (st := []) dX11_thing_77 zi_X11_192 rfl rfl zs_61 rfl rfl (Nat.le_of_ble_eq_true rfl) (by decide) (fun _ _ hx => hx) h17 ?_
    intro r20 M18 h19
    exact z_iret dX11_thing_80 rfl rfl (by decide) h19
  have h21 := h15.2 g16
  by_cases g22 : x2 = (4 : Int32)
  · have h23 := h21.1 g22
    refine z_tableIn (tgt := 81) dX11_thing_6 (by rw [g22]; decide) (by rw [g22]; decide) (by rw [g22]; rfl) (by decide) ?_
    refine z_aload_n dX11_thing_81 rfl ?_
    refine z_getR dX11_thing_82 zg_X11_56 zs_19 rfl ?_
    refine z_aload_n dX11_thing_85 rfl ?_
    refine z_getR dX11_thing_86 zg_X11_49 zs_19 rfl ?_
    refine z_aload_n dX11_thing_89 rfl ?_
    refine z_getR dX11_thing_90 zg_X11_29 zs_19 rfl ?_
    refine z_iload_n dX11_thing_93 rfl ?_
    refine z_callVi (As := [.ref 43, .ref 61, .int x1]) (st := []) dX11_thing_94 zi_X11_195 rfl rfl zs_48 rfl rfl (Nat.le_of_ble_eq_true rfl) (by decide) (fun _ _ hx => hx) h23 ?_
    intro r26 M24 h25
    exact z_iret dX11_thing_97 rfl rfl (by decide) h25
  have h27 := h21.2 g22
  refine z_tableOut (tgt := 98) dX11_thing_6 (by have := zne_toInt g3 (by decide : ((0 : Int32)).toInt = 0); have := zne_toInt g8 (by decide : ((1 : Int32)).toInt = 1); have := zne_toInt g13 (by decide : ((2 : Int32)).toInt = 2); have := zne_toInt g16 (by decide : ((3 : Int32)).toInt = 3); have := zne_toInt g22 (by decide : ((4 : Int32)).toInt = 4); omega) (by decide) ?_
  exact z_throwN ztn_X11_175_199 dX11_thing_98 dX11_thing_101 dX11_thing_102 dX11_thing_104 dX11_thing_107 (Nat.le_of_ble_eq_true rfl) (by decide) h27
def w_X11_log_9 (E : zEv) (D : Nat) (post : Int32 → zM → Prop) (px : String → zM → Prop)   (M : zM) : Prop := Z E jX11_log (D + 1) 1 (zQi post px) 9 0 [zU, zU, zU] [] M
def w_X11_log_38 (E : zEv) (D : Nat) (post : Int32 → zM → Prop) (px : String → zM → Prop)   (M : zM) : Prop := Z E jX11_log (D + 1) 1 (zQi post px) 38 0 [zU, zU, zU] [] M
theorem e_X11_log {E : zEv} {D : Nat} {post : Int32 → zM → Prop} {px : String → zM → Prop} {M : zM} {x1 : Int32} {x2 : Int32}  (h : ((x2 < 0 → w_X11_log_9 E D post px  M) ∧ (¬ x2 < 0 → ((x2 ≤ (4 : Int32) → ((x1 < 0 → w_X11_log_38 E D post px  M) ∧ (¬ x1 < 0 → ((x1 < (M.1 69 1) → zCi E jX7_read D 0 [.ref 69, .int x1, .int x2] M (fun r15 M13 => post r15 M13) px) ∧ (¬ x1 < (M.1 69 1) → w_X11_log_38 E D post px  M))))) ∧ (¬ x2 ≤ (4 : Int32) → w_X11_log_9 E D post px  M))))) : zCi E jX11_log (D + 1) 1 [.ref 19, .int x1, .int x2] M post px := by
  refine z_meth (by decide) (Nat.le_of_ble_eq_true rfl) ?_
  show Z E jX11_log (D + 1) 1 (zQi post px) 0 0 [.ref 19, .int x1, .int x2] [] M
  refine z_iload_n dX11_log_0 rfl ?_
  refine z_if_lt (tgt := 9) dX11_log_1 (by decide) (fun g1 => ?_) (fun g1 => ?_)
  · have h2 := h.1 g1
    refine z_weak [false, false, false] (ls' := [zU, zU, zU]) rfl rfl ?_
    exact h2
  · have h3 := h.2 g1
    refine z_iload_n dX11_log_4 rfl ?_
    refine z_iconst (v := (4 : Int32)) dX11_log_5 rfl ?_
    refine z_icmp_le (tgt := 20) dX11_log_6 (by decide) (fun g4 => ?_) (fun g4 => ?_)
    · have h5 := h3.1 g4
      refine z_iload_n dX11_log_20 rfl ?_
      refine z_if_lt (tgt := 38) dX11_log_21 (by decide) (fun g7 => ?_) (fun g7 => ?_)
      · have h8 := h5.1 g7
        refine z_weak [false, false, false] (ls' := [zU, zU, zU]) rfl rfl ?_
        exact h8
      · have h9 := h5.2 g7
        refine z_iload_n dX11_log_24 rfl ?_
        refine z_aload_n dX11_log_25 rfl ?_
        refine z_getR dX11_log_26 zg_X11_29 zs_19 rfl ?_
        refine z_getR dX11_log_29 zg_X11_399 zs_61 rfl ?_
        refine z_getI dX11_log_32 zg_X11_403 zs_69 rfl ?_
        refine z_icmp_lt (tgt := 41) dX11_log_35 (by decide) (fun g10 => ?_) (fun g10 => ?_)
        · have h11 := h9.1 g10
          refine z_aload_n dX11_log_41 rfl ?_
          refine z_getR dX11_log_42 zg_X11_29 zs_19 rfl ?_
          refine z_getR dX11_log_45 zg_X11_399 zs_61 rfl ?_
          refine z_iload_n dX11_log_48 rfl ?_
          refine z_iload_n dX11_log_49 rfl ?_
          refine z_callVi (As := [.int x1, .int x2]) (st := []) dX11_log_50 zi_X11_406 rfl rfl zs_69 rfl rfl (Nat.le_of_ble_eq_true rfl) (by decide) (fun _ _ hx => hx) h11 ?_
          intro r15 M13 h14
          exact z_iret dX11_log_53 rfl rfl (by decide) h14
        · have h12 := h9.2 g10
          refine z_weak [false, false, false] (ls' := [zU, zU, zU]) rfl rfl ?_
          exact h12
    · have h6 := h3.2 g4
      refine z_weak [false, false, false] (ls' := [zU, zU, zU]) rfl rfl ?_
      exact h6
theorem t_X11_log_9 {E : zEv} {D : Nat} {post : Int32 → zM → Prop} {px : String → zM → Prop} {M : zM}    (h : px "java/util/NoSuchElementException" M) : w_X11_log_9 E D post px  M := by
  show Z E jX11_log (D + 1) 1 (zQi post px) 9 0 [zU, zU, zU] [] M
  exact z_throwNW ztn_X11_175_408 dX11_log_9 dX11_log_12 dX11_log_13 dX11_log_16 dX11_log_19 (Nat.le_of_ble_eq_true rfl) (by decide) h
theorem t_X11_log_38 {E : zEv} {D : Nat} {post : Int32 → zM → Prop} {px : String → zM → Prop} {M : zM}    (h : post (-2 : Int32) M) : w_X11_log_38 E D post px  M := by
  show Z E jX11_log (D + 1) 1 (zQi post px) 38 0 [zU, zU, zU] [] M
  refine z_bipush (v := (-2 : Int32)) dX11_log_38 rfl ?_
  exact z_iret dX11_log_40 rfl rfl (by decide) h
