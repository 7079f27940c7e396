theorem yAt {pre l : List yEnt} {x : yEnt} {n : Nat} (hn : pre.length = n) (k : Nat) (h : l[k]? = some x) : (pre ++ l)[n + k]? = some x := by
  subst hn
  rw [List.getElem?_append_right (by omega)]
  simpa using h
theorem zw_43 : (Cond.methodLink "BlushCourt$Tape" 3 ⟨"java/lang/Object", "<init>", "()V"⟩) ∈ zT := zq_1 43 rfl rfl
theorem zw_36 : (Cond.instanceMethod ⟨"java/lang/Object", "<init>", "()V"⟩) ∈ zT := zq_1 36 rfl rfl
theorem zw_37 : (Cond.code ⟨"java/lang/Object", "<init>", "()V"⟩ object_method_1_code 1 (none : Option Jvm.ClassFile.FieldType)) ∈ zT := zq_1 37 rfl rfl
theorem zw_62 : (Cond.arrayClass .int) ∈ zT := zq_1 62 rfl rfl
theorem zw_68 : (Cond.methodLink "BlushCourt$Law" 3 ⟨"java/lang/Object", "<init>", "()V"⟩) ∈ zT := zq_1 68 rfl rfl
theorem zw_107 : (Cond.methodLink "BlushCourt$Row" 3 ⟨"java/lang/Object", "<init>", "()V"⟩) ∈ zT := zq_1 107 rfl rfl
theorem zw_166 : (Cond.methodLink "BlushCourt$Log" 3 ⟨"java/lang/Object", "<init>", "()V"⟩) ∈ zT := zq_1 166 rfl rfl
theorem zw_178 : (Cond.arrayClass .long) ∈ zT := zq_1 178 rfl rfl
theorem zw_101 : (Cond.methodLink "BlushCourt$Court" 3 ⟨"java/lang/Object", "<init>", "()V"⟩) ∈ zT := zq_1 101 rfl rfl
theorem zw_102 : (Cond.classLink "BlushCourt$Court" 9 "BlushCourt$Row") ∈ zT := zq_1 102 rfl rfl
theorem zw_103 : (Cond.instantiable "BlushCourt$Row" 7) ∈ zT := zq_1 103 rfl rfl
theorem zw_104 : (Cond.methodLinkNest "BlushCourt$Court" 11 ⟨"BlushCourt$Row", "<init>", "()V"⟩ "BlushCourt") ∈ zT := zq_1 104 rfl rfl
theorem zw_105 : (Cond.instanceMethod ⟨"BlushCourt$Row", "<init>", "()V"⟩) ∈ zT := zq_1 105 rfl rfl
theorem zw_106 : (Cond.code ⟨"BlushCourt$Row", "<init>", "()V"⟩ prog_10_method_1_code 1 (none : Option Jvm.ClassFile.FieldType)) ∈ zT := zq_1 106 rfl rfl
theorem zw_161 : (Cond.classLink "BlushCourt$Court" 18 "BlushCourt$Log") ∈ zT := zq_1 161 rfl rfl
theorem zw_162 : (Cond.instantiable "BlushCourt$Log" 3) ∈ zT := zq_1 162 rfl rfl
theorem zw_163 : (Cond.methodLinkNest "BlushCourt$Court" 20 ⟨"BlushCourt$Log", "<init>", "()V"⟩ "BlushCourt") ∈ zT := zq_1 163 rfl rfl
theorem zw_164 : (Cond.instanceMethod ⟨"BlushCourt$Log", "<init>", "()V"⟩) ∈ zT := zq_1 164 rfl rfl
theorem zw_165 : (Cond.code ⟨"BlushCourt$Log", "<init>", "()V"⟩ prog_9_method_1_code 1 (none : Option Jvm.ClassFile.FieldType)) ∈ zT := zq_1 165 rfl rfl
theorem zw_279 : (Cond.methodLink "BlushCourt$History" 3 ⟨"java/lang/Object", "<init>", "()V"⟩) ∈ zT := zq_2 39 rfl rfl
theorem zw_280 : (Cond.classLink "BlushCourt$History" 9 "BlushCourt$Court") ∈ zT := zq_2 40 rfl rfl
theorem zw_97 : (Cond.instantiable "BlushCourt$Court" 16) ∈ zT := zq_1 97 rfl rfl
theorem zw_282 : (Cond.methodLinkNest "BlushCourt$History" 24 ⟨"BlushCourt$Court", "<init>", "()V"⟩ "BlushCourt") ∈ zT := zq_2 42 rfl rfl
theorem zw_99 : (Cond.instanceMethod ⟨"BlushCourt$Court", "<init>", "()V"⟩) ∈ zT := zq_1 99 rfl rfl
theorem zw_100 : (Cond.code ⟨"BlushCourt$Court", "<init>", "()V"⟩ prog_5_method_1_code 1 (none : Option Jvm.ClassFile.FieldType)) ∈ zT := zq_1 100 rfl rfl
theorem zw_299 : (Cond.methodLink "BlushCourt$Blush" 3 ⟨"java/lang/Object", "<init>", "()V"⟩) ∈ zT := zq_2 59 rfl rfl
theorem zw_300 : (Cond.classLink "BlushCourt$Blush" 9 "BlushCourt$Law") ∈ zT := zq_2 60 rfl rfl
theorem zw_64 : (Cond.instantiable "BlushCourt$Law" 8) ∈ zT := zq_1 64 rfl rfl
theorem zw_301 : (Cond.methodLinkNest "BlushCourt$Blush" 11 ⟨"BlushCourt$Law", "<init>", "()V"⟩ "BlushCourt") ∈ zT := zq_2 61 rfl rfl
theorem zw_66 : (Cond.instanceMethod ⟨"BlushCourt$Law", "<init>", "()V"⟩) ∈ zT := zq_1 66 rfl rfl
theorem zw_67 : (Cond.code ⟨"BlushCourt$Law", "<init>", "()V"⟩ prog_8_method_1_code 1 (none : Option Jvm.ClassFile.FieldType)) ∈ zT := zq_1 67 rfl rfl
theorem zw_328 : (Cond.methodLink "BlushCourt$Worlds" 3 ⟨"java/lang/Object", "<init>", "()V"⟩) ∈ zT := zq_2 88 rfl rfl
theorem zw_347 : (Cond.methodLink "BlushCourt$Apart" 3 ⟨"java/lang/Object", "<init>", "()V"⟩) ∈ zT := zq_2 107 rfl rfl
theorem zw_368 : (Cond.methodLink "BlushCourt$Couples" 3 ⟨"java/lang/Object", "<init>", "()V"⟩) ∈ zT := zq_2 128 rfl rfl
theorem zw_35 : (Cond.methodLink "BlushCourt" 1 ⟨"java/lang/Object", "<init>", "()V"⟩) ∈ zT := zq_1 35 rfl rfl
theorem zw_38 : (Cond.classLink "BlushCourt" 7 "BlushCourt$Tape") ∈ zT := zq_1 38 rfl rfl
theorem zw_39 : (Cond.instantiable "BlushCourt$Tape" 5) ∈ zT := zq_1 39 rfl rfl
theorem zw_40 : (Cond.methodLinkNest "BlushCourt" 9 ⟨"BlushCourt$Tape", "<init>", "()V"⟩ "BlushCourt") ∈ zT := zq_1 40 rfl rfl
theorem zw_41 : (Cond.instanceMethod ⟨"BlushCourt$Tape", "<init>", "()V"⟩) ∈ zT := zq_1 41 rfl rfl
theorem zw_42 : (Cond.code ⟨"BlushCourt$Tape", "<init>", "()V"⟩ prog_11_method_1_code 1 (none : Option Jvm.ClassFile.FieldType)) ∈ zT := zq_1 42 rfl rfl
theorem zw_63 : (Cond.classLink "BlushCourt" 16 "BlushCourt$Law") ∈ zT := zq_1 63 rfl rfl
theorem zw_65 : (Cond.methodLinkNest "BlushCourt" 18 ⟨"BlushCourt$Law", "<init>", "()V"⟩ "BlushCourt") ∈ zT := zq_1 65 rfl rfl
theorem zw_96 : (Cond.classLink "BlushCourt" 26 "BlushCourt$Court") ∈ zT := zq_1 96 rfl rfl
theorem zw_98 : (Cond.methodLinkNest "BlushCourt" 28 ⟨"BlushCourt$Court", "<init>", "()V"⟩ "BlushCourt") ∈ zT := zq_1 98 rfl rfl
theorem zw_274 : (Cond.classLink "BlushCourt" 39 "BlushCourt$History") ∈ zT := zq_2 34 rfl rfl
theorem zw_275 : (Cond.instantiable "BlushCourt$History" 3) ∈ zT := zq_2 35 rfl rfl
theorem zw_276 : (Cond.methodLink "BlushCourt" 41 ⟨"BlushCourt$History", "<init>", "()V"⟩) ∈ zT := zq_2 36 rfl rfl
theorem zw_277 : (Cond.instanceMethod ⟨"BlushCourt$History", "<init>", "()V"⟩) ∈ zT := zq_2 37 rfl rfl
theorem zw_278 : (Cond.code ⟨"BlushCourt$History", "<init>", "()V"⟩ prog_7_method_1_code 2 (none : Option Jvm.ClassFile.FieldType)) ∈ zT := zq_2 38 rfl rfl
theorem zw_294 : (Cond.classLink "BlushCourt" 46 "BlushCourt$Blush") ∈ zT := zq_2 54 rfl rfl
theorem zw_295 : (Cond.instantiable "BlushCourt$Blush" 5) ∈ zT := zq_2 55 rfl rfl
theorem zw_296 : (Cond.methodLinkNest "BlushCourt" 48 ⟨"BlushCourt$Blush", "<init>", "()V"⟩ "BlushCourt") ∈ zT := zq_2 56 rfl rfl
theorem zw_297 : (Cond.instanceMethod ⟨"BlushCourt$Blush", "<init>", "()V"⟩) ∈ zT := zq_2 57 rfl rfl
theorem zw_298 : (Cond.code ⟨"BlushCourt$Blush", "<init>", "()V"⟩ prog_3_method_1_code 1 (none : Option Jvm.ClassFile.FieldType)) ∈ zT := zq_2 58 rfl rfl
theorem zw_323 : (Cond.classLink "BlushCourt" 53 "BlushCourt$Worlds") ∈ zT := zq_2 83 rfl rfl
theorem zw_324 : (Cond.instantiable "BlushCourt$Worlds" 4) ∈ zT := zq_2 84 rfl rfl
theorem zw_325 : (Cond.methodLinkNest "BlushCourt" 55 ⟨"BlushCourt$Worlds", "<init>", "()V"⟩ "BlushCourt") ∈ zT := zq_2 85 rfl rfl
theorem zw_326 : (Cond.instanceMethod ⟨"BlushCourt$Worlds", "<init>", "()V"⟩) ∈ zT := zq_2 86 rfl rfl
theorem zw_327 : (Cond.code ⟨"BlushCourt$Worlds", "<init>", "()V"⟩ prog_12_method_1_code 1 (none : Option Jvm.ClassFile.FieldType)) ∈ zT := zq_2 87 rfl rfl
theorem zw_342 : (Cond.classLink "BlushCourt" 60 "BlushCourt$Apart") ∈ zT := zq_2 102 rfl rfl
theorem zw_343 : (Cond.instantiable "BlushCourt$Apart" 4) ∈ zT := zq_2 103 rfl rfl
theorem zw_344 : (Cond.methodLinkNest "BlushCourt" 62 ⟨"BlushCourt$Apart", "<init>", "()V"⟩ "BlushCourt") ∈ zT := zq_2 104 rfl rfl
theorem zw_345 : (Cond.instanceMethod ⟨"BlushCourt$Apart", "<init>", "()V"⟩) ∈ zT := zq_2 105 rfl rfl
theorem zw_346 : (Cond.code ⟨"BlushCourt$Apart", "<init>", "()V"⟩ prog_2_method_1_code 1 (none : Option Jvm.ClassFile.FieldType)) ∈ zT := zq_2 106 rfl rfl
theorem zw_363 : (Cond.classLink "BlushCourt" 67 "BlushCourt$Couples") ∈ zT := zq_2 123 rfl rfl
theorem zw_364 : (Cond.instantiable "BlushCourt$Couples" 3) ∈ zT := zq_2 124 rfl rfl
theorem zw_365 : (Cond.methodLinkNest "BlushCourt" 69 ⟨"BlushCourt$Couples", "<init>", "()V"⟩ "BlushCourt") ∈ zT := zq_2 125 rfl rfl
theorem zw_366 : (Cond.instanceMethod ⟨"BlushCourt$Couples", "<init>", "()V"⟩) ∈ zT := zq_2 126 rfl rfl
theorem zw_367 : (Cond.code ⟨"BlushCourt$Couples", "<init>", "()V"⟩ prog_4_method_1_code 1 (none : Option Jvm.ClassFile.FieldType)) ∈ zT := zq_2 127 rfl rfl
theorem zw_1464 : (Cond.methodLink "BlushCourtModel" 7 ⟨"java/lang/Object", "<init>", "()V"⟩) ∈ zT := zq_7 24 rfl rfl
theorem zw_830 : (Cond.arrayClass .byte) ∈ zT := zq_4 110 rfl rfl
theorem zw_1547 : (Cond.arrayClass .boolean) ∈ zT := zq_7 107 rfl rfl
abbrev jX9_init : zJ := (yX9_init, cX9_init, 1, (none : Option Jvm.ClassFile.FieldType), [])
abbrev jX6_init : zJ := (yX6_init, cX6_init, 1, (none : Option Jvm.ClassFile.FieldType), [])
abbrev jX8_init : zJ := (yX8_init, cX8_init, 1, (none : Option Jvm.ClassFile.FieldType), [])
abbrev jX7_init : zJ := (yX7_init, cX7_init, 1, (none : Option Jvm.ClassFile.FieldType), [])
abbrev jX3_init : zJ := (yX3_init, cX3_init, 1, (none : Option Jvm.ClassFile.FieldType), [])
abbrev jX5_init : zJ := (yX5_init, cX5_init, 2, (none : Option Jvm.ClassFile.FieldType), [])
abbrev jX1_init : zJ := (yX1_init, cX1_init, 1, (none : Option Jvm.ClassFile.FieldType), [])
abbrev jX10_init : zJ := (yX10_init, cX10_init, 1, (none : Option Jvm.ClassFile.FieldType), [])
abbrev jX0_init : zJ := (yX0_init, cX0_init, 1, (none : Option Jvm.ClassFile.FieldType), [])
abbrev jX2_init : zJ := (yX2_init, cX2_init, 1, (none : Option Jvm.ClassFile.FieldType), [])
abbrev jX11_init : zJ := (yX11_init, cX11_init, 1, (none : Option Jvm.ClassFile.FieldType), [])
abbrev jX12_init : zJ := (yX12_init, cX12_init, 1, (none : Option Jvm.ClassFile.FieldType), [])
theorem yp_X9_9 : yPut RX9 9 8 0 (.array .int) := ⟨RX9, TX9, 5, tyX9, rfl, by decide, zu_X9, zw_44, tyX9_ok, nmX9, by decide +kernel, rfl⟩
theorem yp_X9_15 : yPut RX9 15 8 1 .int := ⟨RX9, TX9, 5, tyX9, rfl, by decide, zu_X9, zw_45, tyX9_ok, nmX9, by decide +kernel, rfl⟩
theorem yp_X9_19 : yPut RX9 19 8 2 .int := ⟨RX9, TX9, 5, tyX9, rfl, by decide, zu_X9, zw_47, tyX9_ok, nmX9, by decide +kernel, rfl⟩
theorem yp_X9_22 : yPut RX9 22 8 3 .int := ⟨RX9, TX9, 5, tyX9, rfl, by decide, zu_X9, zw_48, tyX9_ok, nmX9, by decide +kernel, rfl⟩
theorem yp_X9_25 : yPut RX9 25 8 4 .int := ⟨RX9, TX9, 5, tyX9, rfl, by decide, zu_X9, zw_50, tyX9_ok, nmX9, by decide +kernel, rfl⟩
theorem yp_X6_9 : yPut RX6 9 5 0 (.array .int) := ⟨RX6, TX6, 8, tyX6, rfl, by decide, zu_X6, zw_69, tyX6_ok, nmX6, by decide +kernel, rfl⟩
theorem yp_X6_15 : yPut RX6 15 5 1 (.array .int) := ⟨RX6, TX6, 8, tyX6, rfl, by decide, zu_X6, zw_70, tyX6_ok, nmX6, by decide +kernel, rfl⟩
theorem yp_X6_18 : yPut RX6 18 5 2 (.array .int) := ⟨RX6, TX6, 8, tyX6, rfl, by decide, zu_X6, zw_71, tyX6_ok, nmX6, by decide +kernel, rfl⟩
theorem yp_X6_21 : yPut RX6 21 5 3 (.array .int) := ⟨RX6, TX6, 8, tyX6, rfl, by decide, zu_X6, zw_72, tyX6_ok, nmX6, by decide +kernel, rfl⟩
theorem yp_X6_24 : yPut RX6 24 5 4 (.array .int) := ⟨RX6, TX6, 8, tyX6, rfl, by decide, zu_X6, zw_73, tyX6_ok, nmX6, by decide +kernel, rfl⟩
theorem yp_X6_27 : yPut RX6 27 5 5 (.array .int) := ⟨RX6, TX6, 8, tyX6, rfl, by decide, zu_X6, zw_74, tyX6_ok, nmX6, by decide +kernel, rfl⟩
theorem yp_X6_30 : yPut RX6 30 5 6 .int := ⟨RX6, TX6, 8, tyX6, rfl, by decide, zu_X6, zw_75, tyX6_ok, nmX6, by decide +kernel, rfl⟩
theorem yp_X6_34 : yPut RX6 34 5 7 .int := ⟨RX6, TX6, 8, tyX6, rfl, by decide, zu_X6, zw_78, tyX6_ok, nmX6, by decide +kernel, rfl⟩
theorem yp_X8_9 : yPut RX8 9 7 0 (.array .int) := ⟨RX8, TX8, 7, tyX8, rfl, by decide, zu_X8, zw_108, tyX8_ok, nmX8, by decide +kernel, rfl⟩
theorem yp_X8_15 : yPut RX8 15 7 1 (.array .int) := ⟨RX8, TX8, 7, tyX8, rfl, by decide, zu_X8, zw_113, tyX8_ok, nmX8, by decide +kernel, rfl⟩
theorem yp_X8_18 : yPut RX8 18 7 2 (.array .int) := ⟨RX8, TX8, 7, tyX8, rfl, by decide, zu_X8, zw_118, tyX8_ok, nmX8, by decide +kernel, rfl⟩
theorem yp_X8_21 : yPut RX8 21 7 3 (.array .int) := ⟨RX8, TX8, 7, tyX8, rfl, by decide, zu_X8, zw_123, tyX8_ok, nmX8, by decide +kernel, rfl⟩
theorem yp_X8_24 : yPut RX8 24 7 4 (.array .int) := ⟨RX8, TX8, 7, tyX8, rfl, by decide, zu_X8, zw_129, tyX8_ok, nmX8, by decide +kernel, rfl⟩
theorem yp_X8_27 : yPut RX8 27 7 5 (.array .int) := ⟨RX8, TX8, 7, tyX8, rfl, by decide, zu_X8, zw_134, tyX8_ok, nmX8, by decide +kernel, rfl⟩
theorem yp_X8_30 : yPut RX8 30 7 6 .int := ⟨RX8, TX8, 7, tyX8, rfl, by decide, zu_X8, zw_138, tyX8_ok, nmX8, by decide +kernel, rfl⟩
theorem yp_X7_9 : yPut RX7 9 6 0 (.array .long) := ⟨RX7, TX7, 3, tyX7, rfl, by decide, zu_X7, zw_167, tyX7_ok, nmX7, by decide +kernel, rfl⟩
theorem yp_X7_15 : yPut RX7 15 6 1 .int := ⟨RX7, TX7, 3, tyX7, rfl, by decide, zu_X7, zw_168, tyX7_ok, nmX7, by decide +kernel, rfl⟩
theorem yp_X7_19 : yPut RX7 19 6 2 .int := ⟨RX7, TX7, 3, tyX7, rfl, by decide, zu_X7, zw_170, tyX7_ok, nmX7, by decide +kernel, rfl⟩
theorem yi_X3_11 : yInv RX3 11 jX8_init := ⟨Or.inr ⟨_, zw_104⟩, zw_105, zw_5, zw_106, rfl, rfl, by decide, by decide, by decide +kernel, by decide⟩
theorem yp_X3_12 : yPut RX3 12 3 0 (.object "BlushCourt$Row") := ⟨RX3, TX3, 16, tyX3, rfl, by decide, zu_X3, zw_179, tyX3_ok, nmX3, by decide +kernel, rfl⟩
theorem yi_X3_20 : yInv RX3 20 jX7_init := ⟨Or.inr ⟨_, zw_163⟩, zw_164, zw_6, zw_165, rfl, rfl, by decide, by decide, by decide +kernel, by decide⟩
theorem yp_X3_21 : yPut RX3 21 3 1 (.object "BlushCourt$Log") := ⟨RX3, TX3, 16, tyX3, rfl, by decide, zu_X3, zw_186, tyX3_ok, nmX3, by decide +kernel, rfl⟩
theorem yp_X3_25 : yPut RX3 25 3 2 (.array .int) := ⟨RX3, TX3, 16, tyX3, rfl, by decide, zu_X3, zw_189, tyX3_ok, nmX3, by decide +kernel, rfl⟩
theorem yp_X3_29 : yPut RX3 29 3 3 (.array .int) := ⟨RX3, TX3, 16, tyX3, rfl, by decide, zu_X3, zw_192, tyX3_ok, nmX3, by decide +kernel, rfl⟩
theorem yp_X3_32 : yPut RX3 32 3 4 (.array .int) := ⟨RX3, TX3, 16, tyX3, rfl, by decide, zu_X3, zw_195, tyX3_ok, nmX3, by decide +kernel, rfl⟩
theorem yp_X3_35 : yPut RX3 35 3 5 (.array .int) := ⟨RX3, TX3, 16, tyX3, rfl, by decide, zu_X3, zw_199, tyX3_ok, nmX3, by decide +kernel, rfl⟩
theorem yp_X3_38 : yPut RX3 38 3 6 .int := ⟨RX3, TX3, 16, tyX3, rfl, by decide, zu_X3, zw_204, tyX3_ok, nmX3, by decide +kernel, rfl⟩
theorem yp_X3_42 : yPut RX3 42 3 7 .int := ⟨RX3, TX3, 16, tyX3, rfl, by decide, zu_X3, zw_207, tyX3_ok, nmX3, by decide +kernel, rfl⟩
theorem yp_X3_45 : yPut RX3 45 3 8 .int := ⟨RX3, TX3, 16, tyX3, rfl, by decide, zu_X3, zw_212, tyX3_ok, nmX3, by decide +kernel, rfl⟩
theorem yp_X3_48 : yPut RX3 48 3 9 .int := ⟨RX3, TX3, 16, tyX3, rfl, by decide, zu_X3, zw_217, tyX3_ok, nmX3, by decide +kernel, rfl⟩
theorem yp_X3_51 : yPut RX3 51 3 10 .int := ⟨RX3, TX3, 16, tyX3, rfl, by decide, zu_X3, zw_219, tyX3_ok, nmX3, by decide +kernel, rfl⟩
theorem yp_X3_54 : yPut RX3 54 3 11 .int := ⟨RX3, TX3, 16, tyX3, rfl, by decide, zu_X3, zw_223, tyX3_ok, nmX3, by decide +kernel, rfl⟩
theorem yp_X3_57 : yPut RX3 57 3 12 .int := ⟨RX3, TX3, 16, tyX3, rfl, by decide, zu_X3, zw_228, tyX3_ok, nmX3, by decide +kernel, rfl⟩
theorem yp_X3_60 : yPut RX3 60 3 13 .int := ⟨RX3, TX3, 16, tyX3, rfl, by decide, zu_X3, zw_232, tyX3_ok, nmX3, by decide +kernel, rfl⟩
theorem yp_X3_63 : yPut RX3 63 3 14 .int := ⟨RX3, TX3, 16, tyX3, rfl, by decide, zu_X3, zw_235, tyX3_ok, nmX3, by decide +kernel, rfl⟩
theorem yp_X3_66 : yPut RX3 66 3 15 .int := ⟨RX3, TX3, 16, tyX3, rfl, by decide, zu_X3, zw_239, tyX3_ok, nmX3, by decide +kernel, rfl⟩
theorem yp_X5_11 : yPut RX5 11 4 0 (.array (.object "BlushCourt$Court")) := ⟨RX5, TX5, 3, tyX5, rfl, by decide, zu_X5, zw_283, tyX5_ok, nmX5, by decide +kernel, rfl⟩
theorem yp_X5_17 : yPut RX5 17 4 1 .int := ⟨RX5, TX5, 3, tyX5, rfl, by decide, zu_X5, zw_284, tyX5_ok, nmX5, by decide +kernel, rfl⟩
theorem yp_X5_21 : yPut RX5 21 4 2 .int := ⟨RX5, TX5, 3, tyX5, rfl, by decide, zu_X5, zw_286, tyX5_ok, nmX5, by decide +kernel, rfl⟩
theorem yi_X5_24 : yInv RX5 24 jX3_init := ⟨Or.inr ⟨_, zw_282⟩, zw_99, zw_4, zw_100, rfl, rfl, by decide, by decide, by decide +kernel, by decide⟩
theorem yi_X1_11 : yInv RX1 11 jX6_init := ⟨Or.inr ⟨_, zw_301⟩, zw_66, zw_3, zw_67, rfl, rfl, by decide, by decide, by decide +kernel, by decide⟩
theorem yp_X1_12 : yPut RX1 12 1 0 (.object "BlushCourt$Law") := ⟨RX1, TX1, 5, tyX1, rfl, by decide, zu_X1, zw_302, tyX1_ok, nmX1, by decide +kernel, rfl⟩
theorem yp_X1_18 : yPut RX1 18 1 1 (.array .int) := ⟨RX1, TX1, 5, tyX1, rfl, by decide, zu_X1, zw_304, tyX1_ok, nmX1, by decide +kernel, rfl⟩
theorem yp_X1_22 : yPut RX1 22 1 2 (.array .int) := ⟨RX1, TX1, 5, tyX1, rfl, by decide, zu_X1, zw_306, tyX1_ok, nmX1, by decide +kernel, rfl⟩
theorem yp_X1_25 : yPut RX1 25 1 3 (.array .int) := ⟨RX1, TX1, 5, tyX1, rfl, by decide, zu_X1, zw_308, tyX1_ok, nmX1, by decide +kernel, rfl⟩
theorem yp_X1_28 : yPut RX1 28 1 4 (.array .int) := ⟨RX1, TX1, 5, tyX1, rfl, by decide, zu_X1, zw_309, tyX1_ok, nmX1, by decide +kernel, rfl⟩
theorem yp_X10_9 : yPut RX10 9 9 0 (.array .int) := ⟨RX10, TX10, 4, tyX10, rfl, by decide, zu_X10, zw_329, tyX10_ok, nmX10, by decide +kernel, rfl⟩
theorem yp_X10_15 : yPut RX10 15 9 1 (.array .int) := ⟨RX10, TX10, 4, tyX10, rfl, by decide, zu_X10, zw_330, tyX10_ok, nmX10, by decide +kernel, rfl⟩
theorem yp_X10_18 : yPut RX10 18 9 2 (.array .int) := ⟨RX10, TX10, 4, tyX10, rfl, by decide, zu_X10, zw_331, tyX10_ok, nmX10, by decide +kernel, rfl⟩
theorem yp_X10_21 : yPut RX10 21 9 3 (.array .int) := ⟨RX10, TX10, 4, tyX10, rfl, by decide, zu_X10, zw_332, tyX10_ok, nmX10, by decide +kernel, rfl⟩
theorem yp_X0_9 : yPut RX0 9 0 0 (.array .int) := ⟨RX0, TX0, 4, tyX0, rfl, by decide, zu_X0, zw_348, tyX0_ok, nmX0, by decide +kernel, rfl⟩
theorem yp_X0_15 : yPut RX0 15 0 1 (.array .int) := ⟨RX0, TX0, 4, tyX0, rfl, by decide, zu_X0, zw_350, tyX0_ok, nmX0, by decide +kernel, rfl⟩
theorem yp_X0_18 : yPut RX0 18 0 2 .int := ⟨RX0, TX0, 4, tyX0, rfl, by decide, zu_X0, zw_351, tyX0_ok, nmX0, by decide +kernel, rfl⟩
theorem yp_X0_22 : yPut RX0 22 0 3 .int := ⟨RX0, TX0, 4, tyX0, rfl, by decide, zu_X0, zw_352, tyX0_ok, nmX0, by decide +kernel, rfl⟩
theorem yp_X2_9 : yPut RX2 9 2 0 (.array .int) := ⟨RX2, TX2, 3, tyX2, rfl, by decide, zu_X2, zw_369, tyX2_ok, nmX2, by decide +kernel, rfl⟩
theorem yp_X2_15 : yPut RX2 15 2 1 (.array .int) := ⟨RX2, TX2, 3, tyX2, rfl, by decide, zu_X2, zw_371, tyX2_ok, nmX2, by decide +kernel, rfl⟩
theorem yp_X2_18 : yPut RX2 18 2 2 .int := ⟨RX2, TX2, 3, tyX2, rfl, by decide, zu_X2, zw_372, tyX2_ok, nmX2, by decide +kernel, rfl⟩
theorem yi_X11_9 : yInv RX11 9 jX9_init := ⟨Or.inr ⟨_, zw_40⟩, zw_41, zw_2, zw_42, rfl, rfl, by decide, by decide, by decide +kernel, by decide⟩
theorem yp_X11_10 : yPut RX11 10 10 0 (.object "BlushCourt$Tape") := ⟨RX11, TX11, 13, tyX11, rfl, by decide, zu_X11, zw_381, tyX11_ok, nmX11, by decide +kernel, rfl⟩
theorem yi_X11_18 : yInv RX11 18 jX6_init := ⟨Or.inr ⟨_, zw_65⟩, zw_66, zw_3, zw_67, rfl, rfl, by decide, by decide, by decide +kernel, by decide⟩
theorem yp_X11_19 : yPut RX11 19 10 1 (.object "BlushCourt$Law") := ⟨RX11, TX11, 13, tyX11, rfl, by decide, zu_X11, zw_382, tyX11_ok, nmX11, by decide +kernel, rfl⟩
theorem yp_X11_23 : yPut RX11 23 10 2 (.object "BlushCourt$Law") := ⟨RX11, TX11, 13, tyX11, rfl, by decide, zu_X11, zw_383, tyX11_ok, nmX11, by decide +kernel, rfl⟩
theorem yi_X11_28 : yInv RX11 28 jX3_init := ⟨Or.inr ⟨_, zw_98⟩, zw_99, zw_4, zw_100, rfl, rfl, by decide, by decide, by decide +kernel, by decide⟩
theorem yp_X11_29 : yPut RX11 29 10 3 (.object "BlushCourt$Court") := ⟨RX11, TX11, 13, tyX11, rfl, by decide, zu_X11, zw_384, tyX11_ok, nmX11, by decide +kernel, rfl⟩
theorem yp_X11_33 : yPut RX11 33 10 4 (.object "BlushCourt$Court") := ⟨RX11, TX11, 13, tyX11, rfl, by decide, zu_X11, zw_385, tyX11_ok, nmX11, by decide +kernel, rfl⟩
theorem yp_X11_36 : yPut RX11 36 10 5 (.object "BlushCourt$Court") := ⟨RX11, TX11, 13, tyX11, rfl, by decide, zu_X11, zw_386, tyX11_ok, nmX11, by decide +kernel, rfl⟩
theorem yi_X11_41 : yInv RX11 41 jX5_init := ⟨Or.inl zw_276, zw_277, zw_7, zw_278, rfl, rfl, by decide, by decide, by decide +kernel, by decide⟩
theorem yp_X11_42 : yPut RX11 42 10 6 (.object "BlushCourt$History") := ⟨RX11, TX11, 13, tyX11, rfl, by decide, zu_X11, zw_387, tyX11_ok, nmX11, by decide +kernel, rfl⟩
theorem yi_X11_48 : yInv RX11 48 jX1_init := ⟨Or.inr ⟨_, zw_296⟩, zw_297, zw_8, zw_298, rfl, rfl, by decide, by decide, by decide +kernel, by decide⟩
theorem yp_X11_49 : yPut RX11 49 10 7 (.object "BlushCourt$Blush") := ⟨RX11, TX11, 13, tyX11, rfl, by decide, zu_X11, zw_388, tyX11_ok, nmX11, by decide +kernel, rfl⟩
theorem yi_X11_55 : yInv RX11 55 jX10_init := ⟨Or.inr ⟨_, zw_325⟩, zw_326, zw_9, zw_327, rfl, rfl, by decide, by decide, by decide +kernel, by decide⟩
theorem yp_X11_56 : yPut RX11 56 10 8 (.object "BlushCourt$Worlds") := ⟨RX11, TX11, 13, tyX11, rfl, by decide, zu_X11, zw_389, tyX11_ok, nmX11, by decide +kernel, rfl⟩
theorem yi_X11_62 : yInv RX11 62 jX0_init := ⟨Or.inr ⟨_, zw_344⟩, zw_345, zw_10, zw_346, rfl, rfl, by decide, by decide, by decide +kernel, by decide⟩
theorem yp_X11_63 : yPut RX11 63 10 9 (.object "BlushCourt$Apart") := ⟨RX11, TX11, 13, tyX11, rfl, by decide, zu_X11, zw_390, tyX11_ok, nmX11, by decide +kernel, rfl⟩
theorem yi_X11_69 : yInv RX11 69 jX2_init := ⟨Or.inr ⟨_, zw_365⟩, zw_366, zw_11, zw_367, rfl, rfl, by decide, by decide, by decide +kernel, by decide⟩
theorem yp_X11_70 : yPut RX11 70 10 10 (.object "BlushCourt$Couples") := ⟨RX11, TX11, 13, tyX11, rfl, by decide, zu_X11, zw_391, tyX11_ok, nmX11, by decide +kernel, rfl⟩
theorem yp_X11_74 : yPut RX11 74 10 11 .int := ⟨RX11, TX11, 13, tyX11, rfl, by decide, zu_X11, zw_392, tyX11_ok, nmX11, by decide +kernel, rfl⟩
theorem yp_X11_78 : yPut RX11 78 10 12 .boolean := ⟨RX11, TX11, 13, tyX11, rfl, by decide, zu_X11, zw_393, tyX11_ok, nmX11, by decide +kernel, rfl⟩
theorem yp_X12_13 : yPut RX12 13 11 1 (.array .int) := ⟨RX12, TX12, 27, tyX12, rfl, by decide, zu_X12, zw_1466, tyX12_ok, nmX12, by decide +kernel, rfl⟩
theorem yp_X12_17 : yPut RX12 17 11 2 (.array .int) := ⟨RX12, TX12, 27, tyX12, rfl, by decide, zu_X12, zw_1467, tyX12_ok, nmX12, by decide +kernel, rfl⟩
theorem yp_X12_20 : yPut RX12 20 11 3 (.array .int) := ⟨RX12, TX12, 27, tyX12, rfl, by decide, zu_X12, zw_1468, tyX12_ok, nmX12, by decide +kernel, rfl⟩
theorem yp_X12_23 : yPut RX12 23 11 4 (.array .int) := ⟨RX12, TX12, 27, tyX12, rfl, by decide, zu_X12, zw_1469, tyX12_ok, nmX12, by decide +kernel, rfl⟩
theorem yp_X12_26 : yPut RX12 26 11 5 (.array .int) := ⟨RX12, TX12, 27, tyX12, rfl, by decide, zu_X12, zw_1470, tyX12_ok, nmX12, by decide +kernel, rfl⟩
theorem yp_X12_29 : yPut RX12 29 11 8 (.array .byte) := ⟨RX12, TX12, 27, tyX12, rfl, by decide, zu_X12, zw_1473, tyX12_ok, nmX12, by decide +kernel, rfl⟩
theorem yp_X12_33 : yPut RX12 33 11 14 .int := ⟨RX12, TX12, 27, tyX12, rfl, by decide, zu_X12, zw_1479, tyX12_ok, nmX12, by decide +kernel, rfl⟩
theorem yp_X12_36 : yPut RX12 36 11 15 (.array .int) := ⟨RX12, TX12, 27, tyX12, rfl, by decide, zu_X12, zw_1480, tyX12_ok, nmX12, by decide +kernel, rfl⟩
theorem yp_X12_39 : yPut RX12 39 11 17 (.array .int) := ⟨RX12, TX12, 27, tyX12, rfl, by decide, zu_X12, zw_1482, tyX12_ok, nmX12, by decide +kernel, rfl⟩
theorem yp_X12_42 : yPut RX12 42 11 18 (.array .int) := ⟨RX12, TX12, 27, tyX12, rfl, by decide, zu_X12, zw_1483, tyX12_ok, nmX12, by decide +kernel, rfl⟩
theorem yp_X12_45 : yPut RX12 45 11 19 (.array .int) := ⟨RX12, TX12, 27, tyX12, rfl, by decide, zu_X12, zw_1484, tyX12_ok, nmX12, by decide +kernel, rfl⟩
theorem yp_X12_48 : yPut RX12 48 11 20 (.array .int) := ⟨RX12, TX12, 27, tyX12, rfl, by decide, zu_X12, zw_1485, tyX12_ok, nmX12, by decide +kernel, rfl⟩
theorem yp_X12_51 : yPut RX12 51 11 21 (.array .boolean) := ⟨RX12, TX12, 27, tyX12, rfl, by decide, zu_X12, zw_1486, tyX12_ok, nmX12, by decide +kernel, rfl⟩
theorem yp_X12_55 : yPut RX12 55 11 22 (.array .boolean) := ⟨RX12, TX12, 27, tyX12, rfl, by decide, zu_X12, zw_1487, tyX12_ok, nmX12, by decide +kernel, rfl⟩
theorem yp_X12_58 : yPut RX12 58 11 23 (.array .int) := ⟨RX12, TX12, 27, tyX12, rfl, by decide, zu_X12, zw_1488, tyX12_ok, nmX12, by decide +kernel, rfl⟩
theorem yp_X12_61 : yPut RX12 61 11 24 (.array .int) := ⟨RX12, TX12, 27, tyX12, rfl, by decide, zu_X12, zw_1489, tyX12_ok, nmX12, by decide +kernel, rfl⟩
theorem yp_X12_64 : yPut RX12 64 11 25 (.array .int) := ⟨RX12, TX12, 27, tyX12, rfl, by decide, zu_X12, zw_1490, tyX12_ok, nmX12, by decide +kernel, rfl⟩
theorem yp_X12_67 : yPut RX12 67 11 26 (.array .long) := ⟨RX12, TX12, 27, tyX12, rfl, by decide, zu_X12, zw_1491, tyX12_ok, nmX12, by decide +kernel, rfl⟩
def yb_X9 (n : Nat) : List yEnt := .inl (8, [.ref (n + 1), .int 0, .int 0, .int 0, .int 0]) :: (([] : List yEnt) ++ [.inr (0, 400, (fun _ => 0), (fun _ => none))])
theorem yl_X9 (n : Nat) : (yb_X9 n).length = 2 := by simp only [yb_X9, List.length_append, List.length_cons, List.length_nil]
set_option maxRecDepth 20000 in
set_option maxHeartbeats 8000000 in
theorem c_X9 {E : zEv} {D : Nat} (n : Nat) (pre : List yEnt) (hn : pre.length = n) : yC E jX9_init (D + 0) 1 400 n (pre ++ [.inl (8, [.null, .int 0, .int 0, .int 0, .int 0])]) (pre ++ yb_X9 n) := by
  refine y_meth (by decide) (by decide) ?_
  intro p e s m args below meth c Ls hF hS hl
  have hx := hF.1
  have hb := hF.2.1
  have hts := hF.2.2.2.2.2.2.2.1
  refine lv_aload_n hx hb dX9_init_0 rfl (lv_at hl 0 rfl) ?_
  refine W.objInit hx hb hF.2.2.2.2.1 (hts _ zw_43) (hts _ zw_36) (hts _ zw_37) rfl (by rw [hF.2.2.2.1]; exact hl.1) rfl dX9_init_1 (by show 1 ≤ _ + 8; omega) (by show 2 * 0 + 0 + 12 ≤ 64 * _ + 128; omega) ?_
  refine W.eq (g2 := F0 m 4 Ls []) rfl ?_
  refine lv_aload_n hx hb dX9_init_4 rfl (lv_at hl 0 rfl) ?_
  refine lv_sipush (v := (400 : Int32)) hx hb dX9_init_5 rfl ?_
  refine r_newI (q := n + 1) (N := 400) hF hS (by simp only [List.length_append, List.length_cons, List.length_nil, List.append_eq]; omega) zw_62 (by decide) rfl (by decide) (Nat.le_of_ble_eq_true rfl) (Nat.le_of_ble_eq_true rfl) dX9_init_8 (fun H1 hS => ?_)
  refine r_put [.ref (n + 1), .int 0, .int 0, .int 0, .int 0] (v := .ref (n + 1)) hF hS hn rfl yp_X9_9 (Nat.le_of_ble_eq_true rfl) rfl (by first | rfl | decide) (by first | rfl | decide) dX9_init_10 (fun H1 locs1 hS => ?_)
  refine lv_aload_n hx hb dX9_init_13 rfl (lv_at hl 0 rfl) ?_
  refine lv_iconst (v := (0 : Int32)) hx hb dX9_init_14 rfl ?_
  refine r_put [.ref (n + 1), .int 0, .int 0, .int 0, .int 0] (v := .int 0) hF hS hn rfl yp_X9_15 (Nat.le_of_ble_eq_true rfl) rfl (by first | rfl | decide) (by first | rfl | decide) dX9_init_15 (fun H1 locs1 hS => ?_)
  refine lv_aload_n hx hb dX9_init_18 rfl (lv_at hl 0 rfl) ?_
  refine lv_iconst (v := (0 : Int32)) hx hb dX9_init_19 rfl ?_
  refine r_put [.ref (n + 1), .int 0, .int 0, .int 0, .int 0] (v := .int 0) hF hS hn rfl yp_X9_19 (Nat.le_of_ble_eq_true rfl) rfl (by first | rfl | decide) (by first | rfl | decide) dX9_init_20 (fun H1 locs1 hS => ?_)
  refine lv_aload_n hx hb dX9_init_23 rfl (lv_at hl 0 rfl) ?_
  refine lv_iconst (v := (0 : Int32)) hx hb dX9_init_24 rfl ?_
  refine r_put [.ref (n + 1), .int 0, .int 0, .int 0, .int 0] (v := .int 0) hF hS hn rfl yp_X9_22 (Nat.le_of_ble_eq_true rfl) rfl (by first | rfl | decide) (by first | rfl | decide) dX9_init_25 (fun H1 locs1 hS => ?_)
  refine lv_aload_n hx hb dX9_init_28 rfl (lv_at hl 0 rfl) ?_
  refine lv_iconst (v := (0 : Int32)) hx hb dX9_init_29 rfl ?_
  refine r_put [.ref (n + 1), .int 0, .int 0, .int 0, .int 0] (v := .int 0) hF hS hn rfl yp_X9_25 (Nat.le_of_ble_eq_true rfl) rfl (by first | rfl | decide) (by first | rfl | decide) dX9_init_30 (fun H1 locs1 hS => ?_)
  exact y_ret (D := 0) hF hS rfl (Nat.le_of_ble_eq_true rfl) (Nat.le_of_ble_eq_true rfl) dX9_init_33
def yb_X6 (n : Nat) : List yEnt := .inl (5, [.ref (n + 1), .ref (n + 2), .ref (n + 3), .ref (n + 4), .ref (n + 5), .ref (n + 6), .int (-1), .int 0]) :: ((((((([] : List yEnt) ++ [.inr (0, 12, (fun _ => 0), (fun _ => none))]) ++ [.inr (0, 12, (fun _ => 0), (fun _ => none))]) ++ [.inr (0, 12, (fun _ => 0), (fun _ => none))]) ++ [.inr (0, 400, (fun _ => 0), (fun _ => none))]) ++ [.inr (0, 11, (fun _ => 0), (fun _ => none))]) ++ [.inr (0, 30, (fun _ => 0), (fun _ => none))])
theorem yl_X6 (n : Nat) : (yb_X6 n).length = 7 := by simp only [yb_X6, List.length_append, List.length_cons, List.length_nil, yl_X9]
set_option maxRecDepth 20000 in
set_option maxHeartbeats 8000000 in
theorem c_X6 {E : zEv} {D : Nat} (n : Nat) (pre : List yEnt) (hn : pre.length = n) : yC E jX6_init (D + 0) 6 477 n (pre ++ [.inl (5, [.null, .null, .null, .null, .null, .null, .int 0, .int 0])]) (pre ++ yb_X6 n) := by
  refine y_meth (by decide) (by decide) ?_
  intro p e s m args below meth c Ls hF hS hl
  have hx := hF.1
  have hb := hF.2.1
  have hts := hF.2.2.2.2.2.2.2.1
  refine lv_aload_n hx hb dX6_init_0 rfl (lv_at hl 0 rfl) ?_
  refine W.objInit hx hb hF.2.2.2.2.1 (hts _ zw_68) (hts _ zw_36) (hts _ zw_37) rfl (by rw [hF.2.2.2.1]; exact hl.1) rfl dX6_init_1 (by show 1 ≤ _ + 8; omega) (by show 2 * 0 + 0 + 12 ≤ 64 * _ + 128; omega) ?_
  refine W.eq (g2 := F0 m 4 Ls []) rfl ?_
  refine lv_aload_n hx hb dX6_init_4 rfl (lv_at hl 0 rfl) ?_
  refine lv_bipush (v := (12 : Int32)) hx hb dX6_init_5 rfl ?_
  refine r_newI (q := n + 1) (N := 12) hF hS (by simp only [List.length_append, List.length_cons, List.length_nil, List.append_eq, yl_X9]; omega) zw_62 (by decide) rfl (by decide) (Nat.le_of_ble_eq_true rfl) (Nat.le_of_ble_eq_true rfl) dX6_init_7 (fun H1 hS => ?_)
  refine r_put [.ref (n + 1), .null, .null, .null, .null, .null, .int 0, .int 0] (v := .ref (n + 1)) hF hS hn rfl yp_X6_9 (Nat.le_of_ble_eq_true rfl) rfl (by first | rfl | decide) (by first | rfl | decide) dX6_init_9 (fun H1 locs1 hS => ?_)
  refine lv_aload_n hx hb dX6_init_12 rfl (lv_at hl 0 rfl) ?_
  refine lv_bipush (v := (12 : Int32)) hx hb dX6_init_13 rfl ?_
  refine r_newI (q := n + 2) (N := 12) hF hS (by simp only [List.length_append, List.length_cons, List.length_nil, List.append_eq, yl_X9]; omega) zw_62 (by decide) rfl (by decide) (Nat.le_of_ble_eq_true rfl) (Nat.le_of_ble_eq_true rfl) dX6_init_15 (fun H1 hS => ?_)
  refine r_put [.ref (n + 1), .ref (n + 2), .null, .null, .null, .null, .int 0, .int 0] (v := .ref (n + 2)) hF hS hn rfl yp_X6_15 (Nat.le_of_ble_eq_true rfl) rfl (by first | rfl | decide) (by first | rfl | decide) dX6_init_17 (fun H1 locs1 hS => ?_)
  refine lv_aload_n hx hb dX6_init_20 rfl (lv_at hl 0 rfl) ?_
  refine lv_bipush (v := (12 : Int32)) hx hb dX6_init_21 rfl ?_
  refine r_newI (q := n + 3) (N := 12) hF hS (by simp only [List.length_append, List.length_cons, List.length_nil, List.append_eq, yl_X9]; omega) zw_62 (by decide) rfl (by decide) (Nat.le_of_ble_eq_true rfl) (Nat.le_of_ble_eq_true rfl) dX6_init_23 (fun H1 hS => ?_)
  refine r_put [.ref (n + 1), .ref (n + 2), .ref (n + 3), .null, .null, .null, .int 0, .int 0] (v := .ref (n + 3)) hF hS hn rfl yp_X6_18 (Nat.le_of_ble_eq_true rfl) rfl (by first | rfl | decide) (by first | rfl | decide) dX6_init_25 (fun H1 locs1 hS => ?_)
  refine lv_aload_n hx hb dX6_init_28 rfl (lv_at hl 0 rfl) ?_
  refine lv_sipush (v := (400 : Int32)) hx hb dX6_init_29 rfl ?_
  refine r_newI (q := n + 4) (N := 400) hF hS (by simp only [List.length_append, List.length_cons, List.length_nil, List.append_eq, yl_X9]; omega) zw_62 (by decide) rfl (by decide) (Nat.le_of_ble_eq_true rfl) (Nat.le_of_ble_eq_true rfl) dX6_init_32 (fun H1 hS => ?_)
  refine r_put [.ref (n + 1), .ref (n + 2), .ref (n + 3), .ref (n + 4), .null, .null, .int 0, .int 0] (v := .ref (n + 4)) hF hS hn rfl yp_X6_21 (Nat.le_of_ble_eq_true rfl) rfl (by first | rfl | decide) (by first | rfl | decide) dX6_init_34 (fun H1 locs1 hS => ?_)
  refine lv_aload_n hx hb dX6_init_37 rfl (lv_at hl 0 rfl) ?_
  refine lv_bipush (v := (11 : Int32)) hx hb dX6_init_38 rfl ?_
  refine r_newI (q := n + 5) (N := 11) hF hS (by simp only [List.length_append, List.length_cons, List.length_nil, List.append_eq, yl_X9]; omega) zw_62 (by decide) rfl (by decide) (Nat.le_of_ble_eq_true rfl) (Nat.le_of_ble_eq_true rfl) dX6_init_40 (fun H1 hS => ?_)
  refine r_put [.ref (n + 1), .ref (n + 2), .ref (n + 3), .ref (n + 4), .ref (n + 5), .null, .int 0, .int 0] (v := .ref (n + 5)) hF hS hn rfl yp_X6_24 (Nat.le_of_ble_eq_true rfl) rfl (by first | rfl | decide) (by first | rfl | decide) dX6_init_42 (fun H1 locs1 hS => ?_)
  refine lv_aload_n hx hb dX6_init_45 rfl (lv_at hl 0 rfl) ?_
  refine lv_bipush (v := (30 : Int32)) hx hb dX6_init_46 rfl ?_
  refine r_newI (q := n + 6) (N := 30) hF hS (by simp only [List.length_append, List.length_cons, List.length_nil, List.append_eq, yl_X9]; omega) zw_62 (by decide) rfl (by decide) (Nat.le_of_ble_eq_true rfl) (Nat.le_of_ble_eq_true rfl) dX6_init_48 (fun H1 hS => ?_)
  refine r_put [.ref (n + 1), .ref (n + 2), .ref (n + 3), .ref (n + 4), .ref (n + 5), .ref (n + 6), .int 0, .int 0] (v := .ref (n + 6)) hF hS hn rfl yp_X6_27 (Nat.le_of_ble_eq_true rfl) rfl (by first | rfl | decide) (by first | rfl | decide) dX6_init_50 (fun H1 locs1 hS => ?_)
  refine lv_aload_n hx hb dX6_init_53 rfl (lv_at hl 0 rfl) ?_
  refine lv_iconst (v := (-1 : Int32)) hx hb dX6_init_54 rfl ?_
  refine r_put [.ref (n + 1), .ref (n + 2), .ref (n + 3), .ref (n + 4), .ref (n + 5), .ref (n + 6), .int (-1), .int 0] (v := .int (-1)) hF hS hn rfl yp_X6_30 (Nat.le_of_ble_eq_true rfl) rfl (by first | rfl | decide) (by first | rfl | decide) dX6_init_55 (fun H1 locs1 hS => ?_)
  refine lv_aload_n hx hb dX6_init_58 rfl (lv_at hl 0 rfl) ?_
  refine lv_iconst (v := (0 : Int32)) hx hb dX6_init_59 rfl ?_
  refine r_put [.ref (n + 1), .ref (n + 2), .ref (n + 3), .ref (n + 4), .ref (n + 5), .ref (n + 6), .int (-1), .int 0] (v := .int 0) hF hS hn rfl yp_X6_34 (Nat.le_of_ble_eq_true rfl) rfl (by first | rfl | decide) (by first | rfl | decide) dX6_init_60 (fun H1 locs1 hS => ?_)
  exact y_ret (D := 0) hF hS rfl (Nat.le_of_ble_eq_true rfl) (Nat.le_of_ble_eq_true rfl) dX6_init_63
def yb_X8 (n : Nat) : List yEnt := .inl (7, [.ref (n + 1), .ref (n + 2), .ref (n + 3), .ref (n + 4), .ref (n + 5), .ref (n + 6), .int 0]) :: ((((((([] : List yEnt) ++ [.inr (0, 5, (fun _ => 0), (fun _ => none))]) ++ [.inr (0, 5, (fun _ => 0), (fun _ => none))]) ++ [.inr (0, 5, (fun _ => 0), (fun _ => none))]) ++ [.inr (0, 5, (fun _ => 0), (fun _ => none))]) ++ [.inr (0, 5, (fun _ => 0), (fun _ => none))]) ++ [.inr (0, 5, (fun _ => 0), (fun _ => none))])
theorem yl_X8 (n : Nat) : (yb_X8 n).length = 7 := by simp only [yb_X8, List.length_append, List.length_cons, List.length_nil, yl_X9, yl_X6]
set_option maxRecDepth 20000 in
set_option maxHeartbeats 8000000 in
theorem c_X8 {E : zEv} {D : Nat} (n : Nat) (pre : List yEnt) (hn : pre.length = n) : yC E jX8_init (D + 0) 6 30 n (pre ++ [.inl (7, [.null, .null, .null, .null, .null, .null, .int 0])]) (pre ++ yb_X8 n) := by
  refine y_meth (by decide) (by decide) ?_
  intro p e s m args below meth c Ls hF hS hl
  have hx := hF.1
  have hb := hF.2.1
  have hts := hF.2.2.2.2.2.2.2.1
  refine lv_aload_n hx hb dX8_init_0 rfl (lv_at hl 0 rfl) ?_
  refine W.objInit hx hb hF.2.2.2.2.1 (hts _ zw_107) (hts _ zw_36) (hts _ zw_37) rfl (by rw [hF.2.2.2.1]; exact hl.1) rfl dX8_init_1 (by show 1 ≤ _ + 8; omega) (by show 2 * 0 + 0 + 12 ≤ 64 * _ + 128; omega) ?_
  refine W.eq (g2 := F0 m 4 Ls []) rfl ?_
  refine lv_aload_n hx hb dX8_init_4 rfl (lv_at hl 0 rfl) ?_
  refine lv_iconst (v := (5 : Int32)) hx hb dX8_init_5 rfl ?_
  refine r_newI (q := n + 1) (N := 5) hF hS (by simp only [List.length_append, List.length_cons, List.length_nil, List.append_eq, yl_X9, yl_X6]; omega) zw_62 (by decide) rfl (by decide) (Nat.le_of_ble_eq_true rfl) (Nat.le_of_ble_eq_true rfl) dX8_init_6 (fun H1 hS => ?_)
  refine r_put [.ref (n + 1), .null, .null, .null, .null, .null, .int 0] (v := .ref (n + 1)) hF hS hn rfl yp_X8_9 (Nat.le_of_ble_eq_true rfl) rfl (by first | rfl | decide) (by first | rfl | decide) dX8_init_8 (fun H1 locs1 hS => ?_)
  refine lv_aload_n hx hb dX8_init_11 rfl (lv_at hl 0 rfl) ?_
  refine lv_iconst (v := (5 : Int32)) hx hb dX8_init_12 rfl ?_
  refine r_newI (q := n + 2) (N := 5) hF hS (by simp only [List.length_append, List.length_cons, List.length_nil, List.append_eq, yl_X9, yl_X6]; omega) zw_62 (by decide) rfl (by decide) (Nat.le_of_ble_eq_true rfl) (Nat.le_of_ble_eq_true rfl) dX8_init_13 (fun H1 hS => ?_)
  refine r_put [.ref (n + 1), .ref (n + 2), .null, .null, .null, .null, .int 0] (v := .ref (n + 2)) hF hS hn rfl yp_X8_15 (Nat.le_of_ble_eq_true rfl) rfl (by first | rfl | decide) (by first | rfl | decide) dX8_init_15 (fun H1 locs1 hS => ?_)
  refine lv_aload_n hx hb dX8_init_18 rfl (lv_at hl 0 rfl) ?_
  refine lv_iconst (v := (5 : Int32)) hx hb dX8_init_19 rfl ?_
  refine r_newI (q := n + 3) (N := 5) hF hS (by simp only [List.length_append, List.length_cons, List.length_nil, List.append_eq, yl_X9, yl_X6]; omega) zw_62 (by decide) rfl (by decide) (Nat.le_of_ble_eq_true rfl) (Nat.le_of_ble_eq_true rfl) dX8_init_20 (fun H1 hS => ?_)
  refine r_put [.ref (n + 1), .ref (n + 2), .ref (n + 3), .null, .null, .null, .int 0] (v := .ref (n + 3)) hF hS hn rfl yp_X8_18 (Nat.le_of_ble_eq_true rfl) rfl (by first | rfl | decide) (by first | rfl | decide) dX8_init_22 (fun H1 locs1 hS => ?_)
  refine lv_aload_n hx hb dX8_init_25 rfl (lv_at hl 0 rfl) ?_
  refine lv_iconst (v := (5 : Int32)) hx hb dX8_init_26 rfl ?_
  refine r_newI (q := n + 4) (N := 5) hF hS (by simp only [List.length_append, List.length_cons, List.length_nil, List.append_eq, yl_X9, yl_X6]; omega) zw_62 (by decide) rfl (by decide) (Nat.le_of_ble_eq_true rfl) (Nat.le_of_ble_eq_true rfl) dX8_init_27 (fun H1 hS => ?_)
  refine r_put [.ref (n + 1), .ref (n + 2), .ref (n + 3), .ref (n + 4), .null, .null, .int 0] (v := .ref (n + 4)) hF hS hn rfl yp_X8_21 (Nat.le_of_ble_eq_true rfl) rfl (by first | rfl | decide) (by first | rfl | decide) dX8_init_29 (fun H1 locs1 hS => ?_)
  refine lv_aload_n hx hb dX8_init_32 rfl (lv_at hl 0 rfl) ?_
  refine lv_iconst (v := (5 : Int32)) hx hb dX8_init_33 rfl ?_
  refine r_newI (q := n + 5) (N := 5) hF hS (by simp only [List.length_append, List.length_cons, List.length_nil, List.append_eq, yl_X9, yl_X6]; omega) zw_62 (by decide) rfl (by decide) (Nat.le_of_ble_eq_true rfl) (Nat.le_of_ble_eq_true rfl) dX8_init_34 (fun H1 hS => ?_)
  refine r_put [.ref (n + 1), .ref (n + 2), .ref (n + 3), .ref (n + 4), .ref (n + 5), .null, .int 0] (v := .ref (n + 5)) hF hS hn rfl yp_X8_24 (Nat.le_of_ble_eq_true rfl) rfl (by first | rfl | decide) (by first | rfl | decide) dX8_init_36 (fun H1 locs1 hS => ?_)
  refine lv_aload_n hx hb dX8_init_39 rfl (lv_at hl 0 rfl) ?_
  refine lv_iconst (v := (5 : Int32)) hx hb dX8_init_40 rfl ?_
  refine r_newI (q := n + 6) (N := 5) hF hS (by simp only [List.length_append, List.length_cons, List.length_nil, List.append_eq, yl_X9, yl_X6]; omega) zw_62 (by decide) rfl (by decide) (Nat.le_of_ble_eq_true rfl) (Nat.le_of_ble_eq_true rfl) dX8_init_41 (fun H1 hS => ?_)
  refine r_put [.ref (n + 1), .ref (n + 2), .ref (n + 3), .ref (n + 4), .ref (n + 5), .ref (n + 6), .int 0] (v := .ref (n + 6)) hF hS hn rfl yp_X8_27 (Nat.le_of_ble_eq_true rfl) rfl (by first | rfl | decide) (by first | rfl | decide) dX8_init_43 (fun H1 locs1 hS => ?_)
  refine lv_aload_n hx hb dX8_init_46 rfl (lv_at hl 0 rfl) ?_
  refine lv_iconst (v := (0 : Int32)) hx hb dX8_init_47 rfl ?_
  refine r_put [.ref (n + 1), .ref (n + 2), .ref (n + 3), .ref (n + 4), .ref (n + 5), .ref (n + 6), .int 0] (v := .int 0) hF hS hn rfl yp_X8_30 (Nat.le_of_ble_eq_true rfl) rfl (by first | rfl | decide) (by first | rfl | decide) dX8_init_48 (fun H1 locs1 hS => ?_)
  exact y_ret (D := 0) hF hS rfl (Nat.le_of_ble_eq_true rfl) (Nat.le_of_ble_eq_true rfl) dX8_init_51
def yb_X7 (n : Nat) : List yEnt := .inl (6, [.ref (n + 1), .int 0, .int 0]) :: (([] : List yEnt) ++ [.inr (3, 60, (fun _ => 0), (fun _ => none))])
theorem yl_X7 (n : Nat) : (yb_X7 n).length = 2 := by simp only [yb_X7, List.length_append, List.length_cons, List.length_nil, yl_X9, yl_X6, yl_X8]
set_option maxRecDepth 20000 in
set_option maxHeartbeats 8000000 in
theorem c_X7 {E : zEv} {D : Nat} (n : Nat) (pre : List yEnt) (hn : pre.length = n) : yC E jX7_init (D + 0) 1 60 n (pre ++ [.inl (6, [.null, .int 0, .int 0])]) (pre ++ yb_X7 n) := by
  refine y_meth (by decide) (by decide) ?_
  intro p e s m args below meth c Ls hF hS hl
  have hx := hF.1
  have hb := hF.2.1
  have hts := hF.2.2.2.2.2.2.2.1
  refine lv_aload_n hx hb dX7_init_0 rfl (lv_at hl 0 rfl) ?_
  refine W.objInit hx hb hF.2.2.2.2.1 (hts _ zw_166) (hts _ zw_36) (hts _ zw_37) rfl (by rw [hF.2.2.2.1]; exact hl.1) rfl dX7_init_1 (by show 1 ≤ _ + 8; omega) (by show 2 * 0 + 0 + 12 ≤ 64 * _ + 128; omega) ?_
  refine W.eq (g2 := F0 m 4 Ls []) rfl ?_
  refine lv_aload_n hx hb dX7_init_4 rfl (lv_at hl 0 rfl) ?_
  refine lv_bipush (v := (60 : Int32)) hx hb dX7_init_5 rfl ?_
  refine r_newJ (q := n + 1) (N := 60) hF hS (by simp only [List.length_append, List.length_cons, List.length_nil, List.append_eq, yl_X9, yl_X6, yl_X8]; omega) zw_178 (by decide) rfl (by decide) (Nat.le_of_ble_eq_true rfl) (Nat.le_of_ble_eq_true rfl) dX7_init_7 (fun H1 hS => ?_)
  refine r_put [.ref (n + 1), .int 0, .int 0] (v := .ref (n + 1)) hF hS hn rfl yp_X7_9 (Nat.le_of_ble_eq_true rfl) rfl (by first | rfl | decide) (by first | rfl | decide) dX7_init_9 (fun H1 locs1 hS => ?_)
  refine lv_aload_n hx hb dX7_init_12 rfl (lv_at hl 0 rfl) ?_
  refine lv_iconst (v := (0 : Int32)) hx hb dX7_init_13 rfl ?_
  refine r_put [.ref (n + 1), .int 0, .int 0] (v := .int 0) hF hS hn rfl yp_X7_15 (Nat.le_of_ble_eq_true rfl) rfl (by first | rfl | decide) (by first | rfl | decide) dX7_init_14 (fun H1 locs1 hS => ?_)
  refine lv_aload_n hx hb dX7_init_17 rfl (lv_at hl 0 rfl) ?_
  refine lv_iconst (v := (0 : Int32)) hx hb dX7_init_18 rfl ?_
  refine r_put [.ref (n + 1), .int 0, .int 0] (v := .int 0) hF hS hn rfl yp_X7_19 (Nat.le_of_ble_eq_true rfl) rfl (by first | rfl | decide) (by first | rfl | decide) dX7_init_19 (fun H1 locs1 hS => ?_)
  exact y_ret (D := 0) hF hS rfl (Nat.le_of_ble_eq_true rfl) (Nat.le_of_ble_eq_true rfl) dX7_init_22
def yb_X3 (n : Nat) : List yEnt := .inl (3, [.ref (n + 1), .ref (n + 8), .ref (n + 10), .ref (n + 11), .ref (n + 12), .ref (n + 13), .int 0, .int 0, .int 0, .int 0, .int 0, .int 3, .int 0, .int 0, .int 0, .int 1]) :: ((((((([] : List yEnt) ++ yb_X8 (n + 1)) ++ yb_X7 (n + 8)) ++ [.inr (0, 6, (fun _ => 0), (fun _ => none))]) ++ [.inr (0, 6, (fun _ => 0), (fun _ => none))]) ++ [.inr (0, 8, (fun _ => 0), (fun _ => none))]) ++ [.inr (0, 4, (fun _ => 0), (fun _ => none))])
theorem yl_X3 (n : Nat) : (yb_X3 n).length = 14 := by simp only [yb_X3, List.length_append, List.length_cons, List.length_nil, yl_X9, yl_X6, yl_X8, yl_X7]
set_option maxRecDepth 20000 in
set_option maxHeartbeats 8000000 in
theorem c_X3 {E : zEv} {D : Nat} (n : Nat) (pre : List yEnt) (hn : pre.length = n) : yC E jX3_init (D + 1) 13 124 n (pre ++ [.inl (3, [.null, .null, .null, .null, .null, .null, .int 0, .int 0, .int 0, .int 0, .int 0, .int 0, .int 0, .int 0, .int 0, .int 0])]) (pre ++ yb_X3 n) := by
  refine y_meth (by decide) (by decide) ?_
  intro p e s m args below meth c Ls hF hS hl
  have hx := hF.1
  have hb := hF.2.1
  have hts := hF.2.2.2.2.2.2.2.1
  refine lv_aload_n hx hb dX3_init_0 rfl (lv_at hl 0 rfl) ?_
  refine W.objInit hx hb hF.2.2.2.2.1 (hts _ zw_101) (hts _ zw_36) (hts _ zw_37) rfl (by rw [hF.2.2.2.1]; exact hl.1) rfl dX3_init_1 (by show 1 ≤ _ + 8; omega) (by show 2 * 0 + 0 + 12 ≤ 64 * _ + 128; omega) ?_
  refine W.eq (g2 := F0 m 4 Ls []) rfl ?_
  refine lv_aload_n hx hb dX3_init_4 rfl (lv_at hl 0 rfl) ?_
  refine r_new (q := n + 1) (ci := 7) hF hS (by simp only [List.length_append, List.length_cons, List.length_nil, List.append_eq, yl_X9, yl_X6, yl_X8, yl_X7]; omega) rfl zu_X8 tyX8 tyX8_ok zw_102 zw_103 zw_5 [.null, .null, .null, .null, .null, .null, .int 0] (fun j hj => (by decide : ∀ j, j < 7 → defaultValue (tyX8 j) = vp_V [.null, .null, .null, .null, .null, .null, .int 0] j) j hj) (Nat.le_of_ble_eq_true rfl) (Nat.le_of_ble_eq_true rfl) dX3_init_5 (fun H1 hS => ?_)
  refine lv_dup hx hb dX3_init_8 rfl ?_
  refine r_call (q := n + 1) (D := D + 0) (bl := yb_X8 (n + 1)) hF hS (by simp only [List.length_append, List.length_cons, List.length_nil, List.append_eq, yl_X9, yl_X6, yl_X8, yl_X7]; omega) yi_X3_11 hl.1 rfl (by show _ + 9 ≤ _ + 8; omega) (by show 64 * (_ + 1) + 128 ≤ 64 * _ + 128; omega) (Nat.le_of_ble_eq_true rfl) (Nat.le_of_ble_eq_true rfl) (Nat.le_of_ble_eq_true rfl) dX3_init_9 (fun pre' h' => c_X8 (D := D + 0) _ pre' h') (fun H1 locs1 hS => ?_)
  refine r_put [.ref (n + 1), .null, .null, .null, .null, .null, .int 0, .int 0, .int 0, .int 0, .int 0, .int 0, .int 0, .int 0, .int 0, .int 0] (v := .ref (n + 1)) hF hS hn rfl yp_X3_12 (Nat.le_of_ble_eq_true rfl) rfl (by first | rfl | decide) (by first | rfl | decide) dX3_init_12 (fun H1 locs1 hS => ?_)
  refine lv_aload_n hx hb dX3_init_15 rfl (lv_at hl 0 rfl) ?_
  refine r_new (q := n + 8) (ci := 6) hF hS (by simp only [List.length_append, List.length_cons, List.length_nil, List.append_eq, yl_X9, yl_X6, yl_X8, yl_X7]; omega) rfl zu_X7 tyX7 tyX7_ok zw_161 zw_162 zw_6 [.null, .int 0, .int 0] (fun j hj => (by decide : ∀ j, j < 3 → defaultValue (tyX7 j) = vp_V [.null, .int 0, .int 0] j) j hj) (Nat.le_of_ble_eq_true rfl) (Nat.le_of_ble_eq_true rfl) dX3_init_16 (fun H1 hS => ?_)
  refine lv_dup hx hb dX3_init_19 rfl ?_
  refine r_call (q := n + 8) (D := D + 0) (bl := yb_X7 (n + 8)) hF hS (by simp only [List.length_append, List.length_cons, List.length_nil, List.append_eq, yl_X9, yl_X6, yl_X8, yl_X7]; omega) yi_X3_20 hl.1 rfl (by show _ + 9 ≤ _ + 8; omega) (by show 64 * (_ + 1) + 128 ≤ 64 * _ + 128; omega) (Nat.le_of_ble_eq_true rfl) (Nat.le_of_ble_eq_true rfl) (Nat.le_of_ble_eq_true rfl) dX3_init_20 (fun pre' h' => c_X7 (D := D + 0) _ pre' h') (fun H1 locs1 hS => ?_)
  refine r_put [.ref (n + 1), .ref (n + 8), .null, .null, .null, .null, .int 0, .int 0, .int 0, .int 0, .int 0, .int 0, .int 0, .int 0, .int 0, .int 0] (v := .ref (n + 8)) hF hS hn rfl yp_X3_21 (Nat.le_of_ble_eq_true rfl) rfl (by first | rfl | decide) (by first | rfl | decide) dX3_init_23 (fun H1 locs1 hS => ?_)
  refine lv_aload_n hx hb dX3_init_26 rfl (lv_at hl 0 rfl) ?_
  refine lv_bipush (v := (6 : Int32)) hx hb dX3_init_27 rfl ?_
  refine r_newI (q := n + 10) (N := 6) hF hS (by simp only [List.length_append, List.length_cons, List.length_nil, List.append_eq, yl_X9, yl_X6, yl_X8, yl_X7]; omega) zw_62 (by decide) rfl (by decide) (Nat.le_of_ble_eq_true rfl) (Nat.le_of_ble_eq_true rfl) dX3_init_29 (fun H1 hS => ?_)
  refine r_put [.ref (n + 1), .ref (n + 8), .ref (n + 10), .null, .null, .null, .int 0, .int 0, .int 0, .int 0, .int 0, .int 0, .int 0, .int 0, .int 0, .int 0] (v := .ref (n + 10)) hF hS hn rfl yp_X3_25 (Nat.le_of_ble_eq_true rfl) rfl (by first | rfl | decide) (by first | rfl | decide) dX3_init_31 (fun H1 locs1 hS => ?_)
  refine lv_aload_n hx hb dX3_init_34 rfl (lv_at hl 0 rfl) ?_
  refine lv_bipush (v := (6 : Int32)) hx hb dX3_init_35 rfl ?_
  refine r_newI (q := n + 11) (N := 6) hF hS (by simp only [List.length_append, List.length_cons, List.length_nil, List.append_eq, yl_X9, yl_X6, yl_X8, yl_X7]; omega) zw_62 (by decide) rfl (by decide) (Nat.le_of_ble_eq_true rfl) (Nat.le_of_ble_eq_true rfl) dX3_init_37 (fun H1 hS => ?_)
  refine r_put [.ref (n + 1), .ref (n + 8), .ref (n + 10), .ref (n + 11), .null, .null, .int 0, .int 0, .int 0, .int 0, .int 0, .int 0, .int 0, .int 0, .int 0, .int 0] (v := .ref (n + 11)) hF hS hn rfl yp_X3_29 (Nat.le_of_ble_eq_true rfl) rfl (by first | rfl | decide) (by first | rfl | decide) dX3_init_39 (fun H1 locs1 hS => ?_)
  refine lv_aload_n hx hb dX3_init_42 rfl (lv_at hl 0 rfl) ?_
  refine lv_bipush (v := (8 : Int32)) hx hb dX3_init_43 rfl ?_
  refine r_newI (q := n + 12) (N := 8) hF hS (by simp only [List.length_append, List.length_cons, List.length_nil, List.append_eq, yl_X9, yl_X6, yl_X8, yl_X7]; omega) zw_62 (by decide) rfl (by decide) (Nat.le_of_ble_eq_true rfl) (Nat.le_of_ble_eq_true rfl) dX3_init_45 (fun H1 hS => ?_)
  refine r_put [.ref (n + 1), .ref (n + 8), .ref (n + 10), .ref (n + 11), .ref (n + 12), .null, .int 0, .int 0, .int 0, .int 0, .int 0, .int 0, .int 0, .int 0, .int 0, .int 0] (v := .ref (n + 12)) hF hS hn rfl yp_X3_32 (Nat.le_of_ble_eq_true rfl) rfl (by first | rfl | decide) (by first | rfl | decide) dX3_init_47 (fun H1 locs1 hS => ?_)
  refine lv_aload_n hx hb dX3_init_50 rfl (lv_at hl 0 rfl) ?_
  refine lv_iconst (v := (4 : Int32)) hx hb dX3_init_51 rfl ?_
  refine r_newI (q := n + 13) (N := 4) hF hS (by simp only [List.length_append, List.length_cons, List.length_nil, List.append_eq, yl_X9, yl_X6, yl_X8, yl_X7]; omega) zw_62 (by decide) rfl (by decide) (Nat.le_of_ble_eq_true rfl) (Nat.le_of_ble_eq_true rfl) dX3_init_52 (fun H1 hS => ?_)
  refine r_put [.ref (n + 1), .ref (n + 8), .ref (n + 10), .ref (n + 11), .ref (n + 12), .ref (n + 13), .int 0, .int 0, .int 0, .int 0, .int 0, .int 0, .int 0, .int 0, .int 0, .int 0] (v := .ref (n + 13)) hF hS hn rfl yp_X3_35 (Nat.le_of_ble_eq_true rfl) rfl (by first | rfl | decide) (by first | rfl | decide) dX3_init_54 (fun H1 locs1 hS => ?_)
  refine lv_aload_n hx hb dX3_init_57 rfl (lv_at hl 0 rfl) ?_
  refine lv_iconst (v := (0 : Int32)) hx hb dX3_init_58 rfl ?_
  refine r_put [.ref (n + 1), .ref (n + 8), .ref (n + 10), .ref (n + 11), .ref (n + 12), .ref (n + 13), .int 0, .int 0, .int 0, .int 0, .int 0, .int 0, .int 0, .int 0, .int 0, .int 0] (v := .int 0) hF hS hn rfl yp_X3_38 (Nat.le_of_ble_eq_true rfl) rfl (by first | rfl | decide) (by first | rfl | decide) dX3_init_59 (fun H1 locs1 hS => ?_)
  refine lv_aload_n hx hb dX3_init_62 rfl (lv_at hl 0 rfl) ?_
  refine lv_iconst (v := (0 : Int32)) hx hb dX3_init_63 rfl ?_
  refine r_put [.ref (n + 1), .ref (n + 8), .ref (n + 10), .ref (n + 11), .ref (n + 12), .ref (n + 13), .int 0, .int 0, .int 0, .int 0, .int 0, .int 0, .int 0, .int 0, .int 0, .int 0] (v := .int 0) hF hS hn rfl yp_X3_42 (Nat.le_of_ble_eq_true rfl) rfl (by first | rfl | decide) (by first | rfl | decide) dX3_init_64 (fun H1 locs1 hS => ?_)
  refine lv_aload_n hx hb dX3_init_67 rfl (lv_at hl 0 rfl) ?_
  refine lv_iconst (v := (0 : Int32)) hx hb dX3_init_68 rfl ?_
  refine r_put [.ref (n + 1), .ref (n + 8), .ref (n + 10), .ref (n + 11), .ref (n + 12), .ref (n + 13), .int 0, .int 0, .int 0, .int 0, .int 0, .int 0, .int 0, .int 0, .int 0, .int 0] (v := .int 0) hF hS hn rfl yp_X3_45 (Nat.le_of_ble_eq_true rfl) rfl (by first | rfl | decide) (by first | rfl | decide) dX3_init_69 (fun H1 locs1 hS => ?_)
  refine lv_aload_n hx hb dX3_init_72 rfl (lv_at hl 0 rfl) ?_
  refine lv_iconst (v := (0 : Int32)) hx hb dX3_init_73 rfl ?_
  refine r_put [.ref (n + 1), .ref (n + 8), .ref (n + 10), .ref (n + 11), .ref (n + 12), .ref (n + 13), .int 0, .int 0, .int 0, .int 0, .int 0, .int 0, .int 0, .int 0, .int 0, .int 0] (v := .int 0) hF hS hn rfl yp_X3_48 (Nat.le_of_ble_eq_true rfl) rfl (by first | rfl | decide) (by first | rfl | decide) dX3_init_74 (fun H1 locs1 hS => ?_)
  refine lv_aload_n hx hb dX3_init_77 rfl (lv_at hl 0 rfl) ?_
  refine lv_iconst (v := (0 : Int32)) hx hb dX3_init_78 rfl ?_
  refine r_put [.ref (n + 1), .ref (n + 8), .ref (n + 10), .ref (n + 11), .ref (n + 12), .ref (n + 13), .int 0, .int 0, .int 0, .int 0, .int 0, .int 0, .int 0, .int 0, .int 0, .int 0] (v := .int 0) hF hS hn rfl yp_X3_51 (Nat.le_of_ble_eq_true rfl) rfl (by first | rfl | decide) (by first | rfl | decide) dX3_init_79 (fun H1 locs1 hS => ?_)
  refine lv_aload_n hx hb dX3_init_82 rfl (lv_at hl 0 rfl) ?_
  refine lv_iconst (v := (3 : Int32)) hx hb dX3_init_83 rfl ?_
  refine r_put [.ref (n + 1), .ref (n + 8), .ref (n + 10), .ref (n + 11), .ref (n + 12), .ref (n + 13), .int 0, .int 0, .int 0, .int 0, .int 0, .int 3, .int 0, .int 0, .int 0, .int 0] (v := .int 3) hF hS hn rfl yp_X3_54 (Nat.le_of_ble_eq_true rfl) rfl (by first | rfl | decide) (by first | rfl | decide) dX3_init_84 (fun H1 locs1 hS => ?_)
  refine lv_aload_n hx hb dX3_init_87 rfl (lv_at hl 0 rfl) ?_
  refine lv_iconst (v := (0 : Int32)) hx hb dX3_init_88 rfl ?_
  refine r_put [.ref (n + 1), .ref (n + 8), .ref (n + 10), .ref (n + 11), .ref (n + 12), .ref (n + 13), .int 0, .int 0, .int 0, .int 0, .int 0, .int 3, .int 0, .int 0, .int 0, .int 0] (v := .int 0) hF hS hn rfl yp_X3_57 (Nat.le_of_ble_eq_true rfl) rfl (by first | rfl | decide) (by first | rfl | decide) dX3_init_89 (fun H1 locs1 hS => ?_)
  refine lv_aload_n hx hb dX3_init_92 rfl (lv_at hl 0 rfl) ?_
  refine lv_iconst (v := (0 : Int32)) hx hb dX3_init_93 rfl ?_
  refine r_put [.ref (n + 1), .ref (n + 8), .ref (n + 10), .ref (n + 11), .ref (n + 12), .ref (n + 13), .int 0, .int 0, .int 0, .int 0, .int 0, .int 3, .int 0, .int 0, .int 0, .int 0] (v := .int 0) hF hS hn rfl yp_X3_60 (Nat.le_of_ble_eq_true rfl) rfl (by first | rfl | decide) (by first | rfl | decide) dX3_init_94 (fun H1 locs1 hS => ?_)
  refine lv_aload_n hx hb dX3_init_97 rfl (lv_at hl 0 rfl) ?_
  refine lv_iconst (v := (0 : Int32)) hx hb dX3_init_98 rfl ?_
  refine r_put [.ref (n + 1), .ref (n + 8), .ref (n + 10), .ref (n + 11), .ref (n + 12), .ref (n + 13), .int 0, .int 0, .int 0, .int 0, .int 0, .int 3, .int 0, .int 0, .int 0, .int 0] (v := .int 0) hF hS hn rfl yp_X3_63 (Nat.le_of_ble_eq_true rfl) rfl (by first | rfl | decide) (by first | rfl | decide) dX3_init_99 (fun H1 locs1 hS => ?_)
  refine lv_aload_n hx hb dX3_init_102 rfl (lv_at hl 0 rfl) ?_
  refine lv_iconst (v := (1 : Int32)) hx hb dX3_init_103 rfl ?_
  refine r_put [.ref (n + 1), .ref (n + 8), .ref (n + 10), .ref (n + 11), .ref (n + 12), .ref (n + 13), .int 0, .int 0, .int 0, .int 0, .int 0, .int 3, .int 0, .int 0, .int 0, .int 1] (v := .int 1) hF hS hn rfl yp_X3_66 (Nat.le_of_ble_eq_true rfl) rfl (by first | rfl | decide) (by first | rfl | decide) dX3_init_104 (fun H1 locs1 hS => ?_)
  exact y_ret (D := 0) hF hS rfl (Nat.le_of_ble_eq_true rfl) (Nat.le_of_ble_eq_true rfl) dX3_init_107
def yb_X5 (n : Nat) : List yEnt := .inl (4, [.ref (n + 1), .int 0, .int 0]) :: (((((((((((((([] : List yEnt) ++ [.inr (4, 12, (fun _ => 0), (fun z => if z = (11 : Int32).toNatClampNeg then some (n + 156) else (fun z => if z = (10 : Int32).toNatClampNeg then some (n + 142) else (fun z => if z = (9 : Int32).toNatClampNeg then some (n + 128) else (fun z => if z = (8 : Int32).toNatClampNeg then some (n + 114) else (fun z => if z = (7 : Int32).toNatClampNeg then some (n + 100) else (fun z => if z = (6 : Int32).toNatClampNeg then some (n + 86) else (fun z => if z = (5 : Int32).toNatClampNeg then some (n + 72) else (fun z => if z = (4 : Int32).toNatClampNeg then some (n + 58) else (fun z => if z = (3 : Int32).toNatClampNeg then some (n + 44) else (fun z => if z = (2 : Int32).toNatClampNeg then some (n + 30) else (fun z => if z = (1 : Int32).toNatClampNeg then some (n + 16) else (fun z => if z = (0 : Int32).toNatClampNeg then some (n + 2) else (fun _ => none) z) z) z) z) z) z) z) z) z) z) z) z))]) ++ yb_X3 (n + 2)) ++ yb_X3 (n + 16)) ++ yb_X3 (n + 30)) ++ yb_X3 (n + 44)) ++ yb_X3 (n + 58)) ++ yb_X3 (n + 72)) ++ yb_X3 (n + 86)) ++ yb_X3 (n + 100)) ++ yb_X3 (n + 114)) ++ yb_X3 (n + 128)) ++ yb_X3 (n + 142)) ++ yb_X3 (n + 156))
theorem yl_X5 (n : Nat) : (yb_X5 n).length = 170 := by simp only [yb_X5, List.length_append, List.length_cons, List.length_nil, yl_X9, yl_X6, yl_X8, yl_X7, yl_X3]
set_option maxRecDepth 20000 in
set_option maxHeartbeats 8000000 in
theorem c_X5 {E : zEv} {D : Nat} (n : Nat) (pre : List yEnt) (hn : pre.length = n) : yC E jX5_init (D + 2) 169 1692 n (pre ++ [.inl (4, [.null, .int 0, .int 0])]) (pre ++ yb_X5 n) := by
  refine y_meth (by decide) (by decide) ?_
  intro p e s m args below meth c Ls hF hS hl
  have hx := hF.1
  have hb := hF.2.1
  have hts := hF.2.2.2.2.2.2.2.1
  refine lv_aload_n hx hb dX5_init_0 rfl (lv_at hl 0 rfl) ?_
  refine W.objInit hx hb hF.2.2.2.2.1 (hts _ zw_279) (hts _ zw_36) (hts _ zw_37) rfl (by rw [hF.2.2.2.1]; exact hl.1) rfl dX5_init_1 (by show 1 ≤ _ + 8; omega) (by show 2 * 0 + 0 + 12 ≤ 64 * _ + 128; omega) ?_
  refine W.eq (g2 := F0 m 4 Ls []) rfl ?_
  refine lv_aload_n hx hb dX5_init_4 rfl (lv_at hl 0 rfl) ?_
  refine lv_bipush (v := (12 : Int32)) hx hb dX5_init_5 rfl ?_
  refine r_anew (q := n + 1) (N := 12) hF hS (by simp only [List.length_append, List.length_cons, List.length_nil, List.append_eq, yl_X9, yl_X6, yl_X8, yl_X7, yl_X3]; omega) zw_280 (by decide) rfl (by decide) (Nat.le_of_ble_eq_true rfl) (Nat.le_of_ble_eq_true rfl) dX5_init_7 (fun H1 hS => ?_)
  refine r_put [.ref (n + 1), .int 0, .int 0] (v := .ref (n + 1)) hF hS hn rfl yp_X5_11 (Nat.le_of_ble_eq_true rfl) rfl (by first | rfl | decide) (by first | rfl | decide) dX5_init_10 (fun H1 locs1 hS => ?_)
  refine lv_aload_n hx hb dX5_init_13 rfl (lv_at hl 0 rfl) ?_
  refine lv_iconst (v := (0 : Int32)) hx hb dX5_init_14 rfl ?_
  refine r_put [.ref (n + 1), .int 0, .int 0] (v := .int 0) hF hS hn rfl yp_X5_17 (Nat.le_of_ble_eq_true rfl) rfl (by first | rfl | decide) (by first | rfl | decide) dX5_init_15 (fun H1 locs1 hS => ?_)
  refine lv_aload_n hx hb dX5_init_18 rfl (lv_at hl 0 rfl) ?_
  refine lv_iconst (v := (0 : Int32)) hx hb dX5_init_19 rfl ?_
  refine r_put [.ref (n + 1), .int 0, .int 0] (v := .int 0) hF hS hn rfl yp_X5_21 (Nat.le_of_ble_eq_true rfl) rfl (by first | rfl | decide) (by first | rfl | decide) dX5_init_20 (fun H1 locs1 hS => ?_)
  refine lv_iconst (v := (0 : Int32)) hx hb dX5_init_23 rfl ?_
  refine lv_istore_n (lv' := [(1, .int 0), (0, .ref (zad E n))]) hx hb dX5_init_24 rfl hl (by decide) rfl (fun Ls hl => ?_)
  refine lv_iload_n hx hb dX5_init_25 rfl (lv_at hl 0 rfl) ?_
  refine lv_bipush (v := (12 : Int32)) hx hb dX5_init_26 rfl ?_
  refine lv_icmp_ge (tgt := 50) hx hb dX5_init_28 (by decide) (fun g => absurd g (by decide)) (fun _ => ?_)
  refine lv_aload_n hx hb dX5_init_31 rfl (lv_at hl 1 rfl) ?_
  refine r_get (v := .ref (n + 1)) hF hS hn zg_X5_11 rfl dX5_init_32 ?_
  refine lv_iload_n hx hb dX5_init_35 rfl (lv_at hl 0 rfl) ?_
  refine r_new (q := n + 2) (ci := 3) hF hS (by simp only [List.length_append, List.length_cons, List.length_nil, List.append_eq, yl_X9, yl_X6, yl_X8, yl_X7, yl_X3]; omega) rfl zu_X3 tyX3 tyX3_ok zw_280 zw_97 zw_4 [.null, .null, .null, .null, .null, .null, .int 0, .int 0, .int 0, .int 0, .int 0, .int 0, .int 0, .int 0, .int 0, .int 0] (fun j hj => (by decide : ∀ j, j < 16 → defaultValue (tyX3 j) = vp_V [.null, .null, .null, .null, .null, .null, .int 0, .int 0, .int 0, .int 0, .int 0, .int 0, .int 0, .int 0, .int 0, .int 0] j) j hj) (Nat.le_of_ble_eq_true rfl) (Nat.le_of_ble_eq_true rfl) dX5_init_36 (fun H1 hS => ?_)
  refine lv_dup hx hb dX5_init_39 rfl ?_
  refine r_call (q := n + 2) (D := D + 1) (bl := yb_X3 (n + 2)) hF hS (by simp only [List.length_append, List.length_cons, List.length_nil, List.append_eq, yl_X9, yl_X6, yl_X8, yl_X7, yl_X3]; omega) yi_X5_24 hl.1 rfl (by show _ + 9 ≤ _ + 8; omega) (by show 64 * (_ + 1) + 128 ≤ 64 * _ + 128; omega) (Nat.le_of_ble_eq_true rfl) (Nat.le_of_ble_eq_true rfl) (Nat.le_of_ble_eq_true rfl) dX5_init_40 (fun pre' h' => c_X3 (D := D + 0) _ pre' h') (fun H1 locs1 hS => ?_)
  refine r_aast (n := n + 1) (v := n + 2) hF hS (by rw [hn]) (yAt hn 2 rfl) (by unfold vp_in; decide) dX5_init_43 (fun H1 locs1 hS => ?_)
  refine lv_iinc (k := 0) (v := 1) (lv' := [(1, .int 1), (0, .ref (zad E n))]) hx hb dX5_init_44 hl rfl rfl (by decide) rfl (fun Ls hl => ?_)
  refine lv_goto (tgt := 25) hx hb dX5_init_47 (by decide) ?_
  refine lv_iload_n hx hb dX5_init_25 rfl (lv_at hl 0 rfl) ?_
  refine lv_bipush (v := (12 : Int32)) hx hb dX5_init_26 rfl ?_
  refine lv_icmp_ge (tgt := 50) hx hb dX5_init_28 (by decide) (fun g => absurd g (by decide)) (fun _ => ?_)
  refine lv_aload_n hx hb dX5_init_31 rfl (lv_at hl 1 rfl) ?_
  refine r_get (v := .ref (n + 1)) hF hS hn zg_X5_11 rfl dX5_init_32 ?_
  refine lv_iload_n hx hb dX5_init_35 rfl (lv_at hl 0 rfl) ?_
  refine r_new (q := n + 16) (ci := 3) hF hS (by simp only [List.length_append, List.length_cons, List.length_nil, List.append_eq, yl_X9, yl_X6, yl_X8, yl_X7, yl_X3]; omega) rfl zu_X3 tyX3 tyX3_ok zw_280 zw_97 zw_4 [.null, .null, .null, .null, .null, .null, .int 0, .int 0, .int 0, .int 0, .int 0, .int 0, .int 0, .int 0, .int 0, .int 0] (fun j hj => (by decide : ∀ j, j < 16 → defaultValue (tyX3 j) = vp_V [.null, .null, .null, .null, .null, .null, .int 0, .int 0, .int 0, .int 0, .int 0, .int 0, .int 0, .int 0, .int 0, .int 0] j) j hj) (Nat.le_of_ble_eq_true rfl) (Nat.le_of_ble_eq_true rfl) dX5_init_36 (fun H1 hS => ?_)
  refine lv_dup hx hb dX5_init_39 rfl ?_
  refine r_call (q := n + 16) (D := D + 1) (bl := yb_X3 (n + 16)) hF hS (by simp only [List.length_append, List.length_cons, List.length_nil, List.append_eq, yl_X9, yl_X6, yl_X8, yl_X7, yl_X3]; omega) yi_X5_24 hl.1 rfl (by show _ + 9 ≤ _ + 8; omega) (by show 64 * (_ + 1) + 128 ≤ 64 * _ + 128; omega) (Nat.le_of_ble_eq_true rfl) (Nat.le_of_ble_eq_true rfl) (Nat.le_of_ble_eq_true rfl) dX5_init_40 (fun pre' h' => c_X3 (D := D + 0) _ pre' h') (fun H1 locs1 hS => ?_)
  refine r_aast (n := n + 1) (v := n + 16) hF hS (by rw [hn]) (yAt hn 16 rfl) (by unfold vp_in; decide) dX5_init_43 (fun H1 locs1 hS => ?_)
  refine lv_iinc (k := 0) (v := 2) (lv' := [(1, .int 2), (0, .ref (zad E n))]) hx hb dX5_init_44 hl rfl rfl (by decide) rfl (fun Ls hl => ?_)
  refine lv_goto (tgt := 25) hx hb dX5_init_47 (by decide) ?_
  refine lv_iload_n hx hb dX5_init_25 rfl (lv_at hl 0 rfl) ?_
  refine lv_bipush (v := (12 : Int32)) hx hb dX5_init_26 rfl ?_
  refine lv_icmp_ge (tgt := 50) hx hb dX5_init_28 (by decide) (fun g => absurd g (by decide)) (fun _ => ?_)
  refine lv_aload_n hx hb dX5_init_31 rfl (lv_at hl 1 rfl) ?_
  refine r_get (v := .ref (n + 1)) hF hS hn zg_X5_11 rfl dX5_init_32 ?_
  refine lv_iload_n hx hb dX5_init_35 rfl (lv_at hl 0 rfl) ?_
  refine r_new (q := n + 30) (ci := 3) hF hS (by simp only [List.length_append, List.length_cons, List.length_nil, List.append_eq, yl_X9, yl_X6, yl_X8, yl_X7, yl_X3]; omega) rfl zu_X3 tyX3 tyX3_ok zw_280 zw_97 zw_4 [.null, .null, .null, .null, .null, .null, .int 0, .int 0, .int 0, .int 0, .int 0, .int 0, .int 0, .int 0, .int 0, .int 0] (fun j hj => (by decide : ∀ j, j < 16 → defaultValue (tyX3 j) = vp_V [.null, .null, .null, .null, .null, .null, .int 0, .int 0, .int 0, .int 0, .int 0, .int 0, .int 0, .int 0, .int 0, .int 0] j) j hj) (Nat.le_of_ble_eq_true rfl) (Nat.le_of_ble_eq_true rfl) dX5_init_36 (fun H1 hS => ?_)
  refine lv_dup hx hb dX5_init_39 rfl ?_
  refine r_call (q := n + 30) (D := D + 1) (bl := yb_X3 (n + 30)) hF hS (by simp only [List.length_append, List.length_cons, List.length_nil, List.append_eq, yl_X9, yl_X6, yl_X8, yl_X7, yl_X3]; omega) yi_X5_24 hl.1 rfl (by show _ + 9 ≤ _ + 8; omega) (by show 64 * (_ + 1) + 128 ≤ 64 * _ + 128; omega) (Nat.le_of_ble_eq_true rfl) (Nat.le_of_ble_eq_true rfl) (Nat.le_of_ble_eq_true rfl) dX5_init_40 (fun pre' h' => c_X3 (D := D + 0) _ pre' h') (fun H1 locs1 hS => ?_)
  refine r_aast (n := n + 1) (v := n + 30) hF hS (by rw [hn]) (yAt hn 30 rfl) (by unfold vp_in; decide) dX5_init_43 (fun H1 locs1 hS => ?_)
  refine lv_iinc (k := 0) (v := 3) (lv' := [(1, .int 3), (0, .ref (zad E n))]) hx hb dX5_init_44 hl rfl rfl (by decide) rfl (fun Ls hl => ?_)
  refine lv_goto (tgt := 25) hx hb dX5_init_47 (by decide) ?_
  refine lv_iload_n hx hb dX5_init_25 rfl (lv_at hl 0 rfl) ?_
  refine lv_bipush (v := (12 : Int32)) hx hb dX5_init_26 rfl ?_
  refine lv_icmp_ge (tgt := 50) hx hb dX5_init_28 (by decide) (fun g => absurd g (by decide)) (fun _ => ?_)
  refine lv_aload_n hx hb dX5_init_31 rfl (lv_at hl 1 rfl) ?_
  refine r_get (v := .ref (n + 1)) hF hS hn zg_X5_11 rfl dX5_init_32 ?_
  refine lv_iload_n hx hb dX5_init_35 rfl (lv_at hl 0 rfl) ?_
  refine r_new (q := n + 44) (ci := 3) hF hS (by simp only [List.length_append, List.length_cons, List.length_nil, List.append_eq, yl_X9, yl_X6, yl_X8, yl_X7, yl_X3]; omega) rfl zu_X3 tyX3 tyX3_ok zw_280 zw_97 zw_4 [.null, .null, .null, .null, .null, .null, .int 0, .int 0, .int 0, .int 0, .int 0, .int 0, .int 0, .int 0, .int 0, .int 0] (fun j hj => (by decide : ∀ j, j < 16 → defaultValue (tyX3 j) = vp_V [.null, .null, .null, .null, .null, .null, .int 0, .int 0, .int 0, .int 0, .int 0, .int 0, .int 0, .int 0, .int 0, .int 0] j) j hj) (Nat.le_of_ble_eq_true rfl) (Nat.le_of_ble_eq_true rfl) dX5_init_36 (fun H1 hS => ?_)
  refine lv_dup hx hb dX5_init_39 rfl ?_
  refine r_call (q := n + 44) (D := D + 1) (bl := yb_X3 (n + 44)) hF hS (by simp only [List.length_append, List.length_cons, List.length_nil, List.append_eq, yl_X9, yl_X6, yl_X8, yl_X7, yl_X3]; omega) yi_X5_24 hl.1 rfl (by show _ + 9 ≤ _ + 8; omega) (by show 64 * (_ + 1) + 128 ≤ 64 * _ + 128; omega) (Nat.le_of_ble_eq_true rfl) (Nat.le_of_ble_eq_true rfl) (Nat.le_of_ble_eq_true rfl) dX5_init_40 (fun pre' h' => c_X3 (D := D + 0) _ pre' h') (fun H1 locs1 hS => ?_)
  refine r_aast (n := n + 1) (v := n + 44) hF hS (by rw [hn]) (yAt hn 44 rfl) (by unfold vp_in; decide) dX5_init_43 (fun H1 locs1 hS => ?_)
  refine lv_iinc (k := 0) (v := 4) (lv' := [(1, .int 4), (0, .ref (zad E n))]) hx hb dX5_init_44 hl rfl rfl (by decide) rfl (fun Ls hl => ?_)
  refine lv_goto (tgt := 25) hx hb dX5_init_47 (by decide) ?_
  refine lv_iload_n hx hb dX5_init_25 rfl (lv_at hl 0 rfl) ?_
  refine lv_bipush (v := (12 : Int32)) hx hb dX5_init_26 rfl ?_
  refine lv_icmp_ge (tgt := 50) hx hb dX5_init_28 (by decide) (fun g => absurd g (by decide)) (fun _ => ?_)
  refine lv_aload_n hx hb dX5_init_31 rfl (lv_at hl 1 rfl) ?_
  refine r_get (v := .ref (n + 1)) hF hS hn zg_X5_11 rfl dX5_init_32 ?_
  refine lv_iload_n hx hb dX5_init_35 rfl (lv_at hl 0 rfl) ?_
  refine r_new (q := n + 58) (ci := 3) hF hS (by simp only [List.length_append, List.length_cons, List.length_nil, List.append_eq, yl_X9, yl_X6, yl_X8, yl_X7, yl_X3]; omega) rfl zu_X3 tyX3 tyX3_ok zw_280 zw_97 zw_4 [.null, .null, .null, .null, .null, .null, .int 0, .int 0, .int 0, .int 0, .int 0, .int 0, .int 0, .int 0, .int 0, .int 0] (fun j hj => (by decide : ∀ j, j < 16 → defaultValue (tyX3 j) = vp_V [.null, .null, .null, .null, .null, .null, .int 0, .int 0, .int 0, .int 0, .int 0, .int 0, .int 0, .int 0, .int 0, .int 0] j) j hj) (Nat.le_of_ble_eq_true rfl) (Nat.le_of_ble_eq_true rfl) dX5_init_36 (fun H1 hS => ?_)
  refine lv_dup hx hb dX5_init_39 rfl ?_
  refine r_call (q := n + 58) (D := D + 1) (bl := yb_X3 (n + 58)) hF hS (by simp only [List.length_append, List.length_cons, List.length_nil, List.append_eq, yl_X9, yl_X6, yl_X8, yl_X7, yl_X3]; omega) yi_X5_24 hl.1 rfl (by show _ + 9 ≤ _ + 8; omega) (by show 64 * (_ + 1) + 128 ≤ 64 * _ + 128; omega) (Nat.le_of_ble_eq_true rfl) (Nat.le_of_ble_eq_true rfl) (Nat.le_of_ble_eq_true rfl) dX5_init_40 (fun pre' h' => c_X3 (D := D + 0) _ pre' h') (fun H1 locs1 hS => ?_)
  refine r_aast (n := n + 1) (v := n + 58) hF hS (by rw [hn]) (yAt hn 58 rfl) (by unfold vp_in; decide) dX5_init_43 (fun H1 locs1 hS => ?_)
  refine lv_iinc (k := 0) (v := 5) (lv' := [(1, .int 5), (0, .ref (zad E n))]) hx hb dX5_init_44 hl rfl rfl (by decide) rfl (fun Ls hl => ?_)
  refine lv_goto (tgt := 25) hx hb dX5_init_47 (by decide) ?_
  refine lv_iload_n hx hb dX5_init_25 rfl (lv_at hl 0 rfl) ?_
  refine lv_bipush (v := (12 : Int32)) hx hb dX5_init_26 rfl ?_
  refine lv_icmp_ge (tgt := 50) hx hb dX5_init_28 (by decide) (fun g => absurd g (by decide)) (fun _ => ?_)
  refine lv_aload_n hx hb dX5_init_31 rfl (lv_at hl 1 rfl) ?_
  refine r_get (v := .ref (n + 1)) hF hS hn zg_X5_11 rfl dX5_init_32 ?_
  refine lv_iload_n hx hb dX5_init_35 rfl (lv_at hl 0 rfl) ?_
  refine r_new (q := n + 72) (ci := 3) hF hS (by simp only [List.length_append, List.length_cons, List.length_nil, List.append_eq, yl_X9, yl_X6, yl_X8, yl_X7, yl_X3]; omega) rfl zu_X3 tyX3 tyX3_ok zw_280 zw_97 zw_4 [.null, .null, .null, .null, .null, .null, .int 0, .int 0, .int 0, .int 0, .int 0, .int 0, .int 0, .int 0, .int 0, .int 0] (fun j hj => (by decide : ∀ j, j < 16 → defaultValue (tyX3 j) = vp_V [.null, .null, .null, .null, .null, .null, .int 0, .int 0, .int 0, .int 0, .int 0, .int 0, .int 0, .int 0, .int 0, .int 0] j) j hj) (Nat.le_of_ble_eq_true rfl) (Nat.le_of_ble_eq_true rfl) dX5_init_36 (fun H1 hS => ?_)
  refine lv_dup hx hb dX5_init_39 rfl ?_
  refine r_call (q := n + 72) (D := D + 1) (bl := yb_X3 (n + 72)) hF hS (by simp only [List.length_append, List.length_cons, List.length_nil, List.append_eq, yl_X9, yl_X6, yl_X8, yl_X7, yl_X3]; omega) yi_X5_24 hl.1 rfl (by show _ + 9 ≤ _ + 8; omega) (by show 64 * (_ + 1) + 128 ≤ 64 * _ + 128; omega) (Nat.le_of_ble_eq_true rfl) (Nat.le_of_ble_eq_true rfl) (Nat.le_of_ble_eq_true rfl) dX5_init_40 (fun pre' h' => c_X3 (D := D + 0) _ pre' h') (fun H1 locs1 hS => ?_)
  refine r_aast (n := n + 1) (v := n + 72) hF hS (by rw [hn]) (yAt hn 72 rfl) (by unfold vp_in; decide) dX5_init_43 (fun H1 locs1 hS => ?_)
  refine lv_iinc (k := 0) (v := 6) (lv' := [(1, .int 6), (0, .ref (zad E n))]) hx hb dX5_init_44 hl rfl rfl (by decide) rfl (fun Ls hl => ?_)
  refine lv_goto (tgt := 25) hx hb dX5_init_47 (by decide) ?_
  refine lv_iload_n hx hb dX5_init_25 rfl (lv_at hl 0 rfl) ?_
  refine lv_bipush (v := (12 : Int32)) hx hb dX5_init_26 rfl ?_
  refine lv_icmp_ge (tgt := 50) hx hb dX5_init_28 (by decide) (fun g => absurd g (by decide)) (fun _ => ?_)
  refine lv_aload_n hx hb dX5_init_31 rfl (lv_at hl 1 rfl) ?_
  refine r_get (v := .ref (n + 1)) hF hS hn zg_X5_11 rfl dX5_init_32 ?_
  refine lv_iload_n hx hb dX5_init_35 rfl (lv_at hl 0 rfl) ?_
  refine r_new (q := n + 86) (ci := 3) hF hS (by simp only [List.length_append, List.length_cons, List.length_nil, List.append_eq, yl_X9, yl_X6, yl_X8, yl_X7, yl_X3]; omega) rfl zu_X3 tyX3 tyX3_ok zw_280 zw_97 zw_4 [.null, .null, .null, .null, .null, .null, .int 0, .int 0, .int 0, .int 0, .int 0, .int 0, .int 0, .int 0, .int 0, .int 0] (fun j hj => (by decide : ∀ j, j < 16 → defaultValue (tyX3 j) = vp_V [.null, .null, .null, .null, .null, .null, .int 0, .int 0, .int 0, .int 0, .int 0, .int 0, .int 0, .int 0, .int 0, .int 0] j) j hj) (Nat.le_of_ble_eq_true rfl) (Nat.le_of_ble_eq_true rfl) dX5_init_36 (fun H1 hS => ?_)
  refine lv_dup hx hb dX5_init_39 rfl ?_
  refine r_call (q := n + 86) (D := D + 1) (bl := yb_X3 (n + 86)) hF hS (by simp only [List.length_append, List.length_cons, List.length_nil, List.append_eq, yl_X9, yl_X6, yl_X8, yl_X7, yl_X3]; omega) yi_X5_24 hl.1 rfl (by show _ + 9 ≤ _ + 8; omega) (by show 64 * (_ + 1) + 128 ≤ 64 * _ + 128; omega) (Nat.le_of_ble_eq_true rfl) (Nat.le_of_ble_eq_true rfl) (Nat.le_of_ble_eq_true rfl) dX5_init_40 (fun pre' h' => c_X3 (D := D + 0) _ pre' h') (fun H1 locs1 hS => ?_)
  refine r_aast (n := n + 1) (v := n + 86) hF hS (by rw [hn]) (yAt hn 86 rfl) (by unfold vp_in; decide) dX5_init_43 (fun H1 locs1 hS => ?_)
  refine lv_iinc (k := 0) (v := 7) (lv' := [(1, .int 7), (0, .ref (zad E n))]) hx hb dX5_init_44 hl rfl rfl (by decide) rfl (fun Ls hl => ?_)
  refine lv_goto (tgt := 25) hx hb dX5_init_47 (by decide) ?_
  refine lv_iload_n hx hb dX5_init_25 rfl (lv_at hl 0 rfl) ?_
  refine lv_bipush (v := (12 : Int32)) hx hb dX5_init_26 rfl ?_
  refine lv_icmp_ge (tgt := 50) hx hb dX5_init_28 (by decide) (fun g => absurd g (by decide)) (fun _ => ?_)
  refine lv_aload_n hx hb dX5_init_31 rfl (lv_at hl 1 rfl) ?_
  refine r_get (v := .ref (n + 1)) hF hS hn zg_X5_11 rfl dX5_init_32 ?_
  refine lv_iload_n hx hb dX5_init_35 rfl (lv_at hl 0 rfl) ?_
  refine r_new (q := n + 100) (ci := 3) hF hS (by simp only [List.length_append, List.length_cons, List.length_nil, List.append_eq, yl_X9, yl_X6, yl_X8, yl_X7, yl_X3]; omega) rfl zu_X3 tyX3 tyX3_ok zw_280 zw_97 zw_4 [.null, .null, .null, .null, .null, .null, .int 0, .int 0, .int 0, .int 0, .int 0, .int 0, .int 0, .int 0, .int 0, .int 0] (fun j hj => (by decide : ∀ j, j < 16 → defaultValue (tyX3 j) = vp_V [.null, .null, .null, .null, .null, .null, .int 0, .int 0, .int 0, .int 0, .int 0, .int 0, .int 0, .int 0, .int 0, .int 0] j) j hj) (Nat.le_of_ble_eq_true rfl) (Nat.le_of_ble_eq_true rfl) dX5_init_36 (fun H1 hS => ?_)
  refine lv_dup hx hb dX5_init_39 rfl ?_
  refine r_call (q := n + 100) (D := D + 1) (bl := yb_X3 (n + 100)) hF hS (by simp only [List.length_append, List.length_cons, List.length_nil, List.append_eq, yl_X9, yl_X6, yl_X8, yl_X7, yl_X3]; omega) yi_X5_24 hl.1 rfl (by show _ + 9 ≤ _ + 8; omega) (by show 64 * (_ + 1) + 128 ≤ 64 * _ + 128; omega) (Nat.le_of_ble_eq_true rfl) (Nat.le_of_ble_eq_true rfl) (Nat.le_of_ble_eq_true rfl) dX5_init_40 (fun pre' h' => c_X3 (D := D + 0) _ pre' h') (fun H1 locs1 hS => ?_)
  refine r_aast (n := n + 1) (v := n + 100) hF hS (by rw [hn]) (yAt hn 100 rfl) (by unfold vp_in; decide) dX5_init_43 (fun H1 locs1 hS => ?_)
  refine lv_iinc (k := 0) (v := 8) (lv' := [(1, .int 8), (0, .ref (zad E n))]) hx hb dX5_init_44 hl rfl rfl (by decide) rfl (fun Ls hl => ?_)
  refine lv_goto (tgt := 25) hx hb dX5_init_47 (by decide) ?_
  refine lv_iload_n hx hb dX5_init_25 rfl (lv_at hl 0 rfl) ?_
  refine lv_bipush (v := (12 : Int32)) hx hb dX5_init_26 rfl ?_
  refine lv_icmp_ge (tgt := 50) hx hb dX5_init_28 (by decide) (fun g => absurd g (by decide)) (fun _ => ?_)
  refine lv_aload_n hx hb dX5_init_31 rfl (lv_at hl 1 rfl) ?_
  refine r_get (v := .ref (n + 1)) hF hS hn zg_X5_11 rfl dX5_init_32 ?_
  refine lv_iload_n hx hb dX5_init_35 rfl (lv_at hl 0 rfl) ?_
  refine r_new (q := n + 114) (ci := 3) hF hS (by simp only [List.length_append, List.length_cons, List.length_nil, List.append_eq, yl_X9, yl_X6, yl_X8, yl_X7, yl_X3]; omega) rfl zu_X3 tyX3 tyX3_ok zw_280 zw_97 zw_4 [.null, .null, .null, .null, .null, .null, .int 0, .int 0, .int 0, .int 0, .int 0, .int 0, .int 0, .int 0, .int 0, .int 0] (fun j hj => (by decide : ∀ j, j < 16 → defaultValue (tyX3 j) = vp_V [.null, .null, .null, .null, .null, .null, .int 0, .int 0, .int 0, .int 0, .int 0, .int 0, .int 0, .int 0, .int 0, .int 0] j) j hj) (Nat.le_of_ble_eq_true rfl) (Nat.le_of_ble_eq_true rfl) dX5_init_36 (fun H1 hS => ?_)
  refine lv_dup hx hb dX5_init_39 rfl ?_
  refine r_call (q := n + 114) (D := D + 1) (bl := yb_X3 (n + 114)) hF hS (by simp only [List.length_append, List.length_cons, List.length_nil, List.append_eq, yl_X9, yl_X6, yl_X8, yl_X7, yl_X3]; omega) yi_X5_24 hl.1 rfl (by show _ + 9 ≤ _ + 8; omega) (by show 64 * (_ + 1) + 128 ≤ 64 * _ + 128; omega) (Nat.le_of_ble_eq_true rfl) (Nat.le_of_ble_eq_true rfl) (Nat.le_of_ble_eq_true rfl) dX5_init_40 (fun pre' h' => c_X3 (D := D + 0) _ pre' h') (fun H1 locs1 hS => ?_)
  refine r_aast (n := n + 1) (v := n + 114) hF hS (by rw [hn]) (yAt hn 114 rfl) (by unfold vp_in; decide) dX5_init_43 (fun H1 locs1 hS => ?_)
  refine lv_iinc (k := 0) (v := 9) (lv' := [(1, .int 9), (0, .ref (zad E n))]) hx hb dX5_init_44 hl rfl rfl (by decide) rfl (fun Ls hl => ?_)
  refine lv_goto (tgt := 25) hx hb dX5_init_47 (by decide) ?_
  refine lv_iload_n hx hb dX5_init_25 rfl (lv_at hl 0 rfl) ?_
  refine lv_bipush (v := (12 : Int32)) hx hb dX5_init_26 rfl ?_
  refine lv_icmp_ge (tgt := 50) hx hb dX5_init_28 (by decide) (fun g => absurd g (by decide)) (fun _ => ?_)
  refine lv_aload_n hx hb dX5_init_31 rfl (lv_at hl 1 rfl) ?_
  refine r_get (v := .ref (n + 1)) hF hS hn zg_X5_11 rfl dX5_init_32 ?_
  refine lv_iload_n hx hb dX5_init_35 rfl (lv_at hl 0 rfl) ?_
  refine r_new (q := n + 128) (ci := 3) hF hS (by simp only [List.length_append, List.length_cons, List.length_nil, List.append_eq, yl_X9, yl_X6, yl_X8, yl_X7, yl_X3]; omega) rfl zu_X3 tyX3 tyX3_ok zw_280 zw_97 zw_4 [.null, .null, .null, .null, .null, .null, .int 0, .int 0, .int 0, .int 0, .int 0, .int 0, .int 0, .int 0, .int 0, .int 0] (fun j hj => (by decide : ∀ j, j < 16 → defaultValue (tyX3 j) = vp_V [.null, .null, .null, .null, .null, .null, .int 0, .int 0, .int 0, .int 0, .int 0, .int 0, .int 0, .int 0, .int 0, .int 0] j) j hj) (Nat.le_of_ble_eq_true rfl) (Nat.le_of_ble_eq_true rfl) dX5_init_36 (fun H1 hS => ?_)
  refine lv_dup hx hb dX5_init_39 rfl ?_
  refine r_call (q := n + 128) (D := D + 1) (bl := yb_X3 (n + 128)) hF hS (by simp only [List.length_append, List.length_cons, List.length_nil, List.append_eq, yl_X9, yl_X6, yl_X8, yl_X7, yl_X3]; omega) yi_X5_24 hl.1 rfl (by show _ + 9 ≤ _ + 8; omega) (by show 64 * (_ + 1) + 128 ≤ 64 * _ + 128; omega) (Nat.le_of_ble_eq_true rfl) (Nat.le_of_ble_eq_true rfl) (Nat.le_of_ble_eq_true rfl) dX5_init_40 (fun pre' h' => c_X3 (D := D + 0) _ pre' h') (fun H1 locs1 hS => ?_)
  refine r_aast (n := n + 1) (v := n + 128) hF hS (by rw [hn]) (yAt hn 128 rfl) (by unfold vp_in; decide) dX5_init_43 (fun H1 locs1 hS => ?_)
  refine lv_iinc (k := 0) (v := 10) (lv' := [(1, .int 10), (0, .ref (zad E n))]) hx hb dX5_init_44 hl rfl rfl (by decide) rfl (fun Ls hl => ?_)
  refine lv_goto (tgt := 25) hx hb dX5_init_47 (by decide) ?_
  refine lv_iload_n hx hb dX5_init_25 rfl (lv_at hl 0 rfl) ?_
  refine lv_bipush (v := (12 : Int32)) hx hb dX5_init_26 rfl ?_
  refine lv_icmp_ge (tgt := 50) hx hb dX5_init_28 (by decide) (fun g => absurd g (by decide)) (fun _ => ?_)
  refine lv_aload_n hx hb dX5_init_31 rfl (lv_at hl 1 rfl) ?_
  refine r_get (v := .ref (n + 1)) hF hS hn zg_X5_11 rfl dX5_init_32 ?_
  refine lv_iload_n hx hb dX5_init_35 rfl (lv_at hl 0 rfl) ?_
  refine r_new (q := n + 142) (ci := 3) hF hS (by simp only [List.length_append, List.length_cons, List.length_nil, List.append_eq, yl_X9, yl_X6, yl_X8, yl_X7, yl_X3]; omega) rfl zu_X3 tyX3 tyX3_ok zw_280 zw_97 zw_4 [.null, .null, .null, .null, .null, .null, .int 0, .int 0, .int 0, .int 0, .int 0, .int 0, .int 0, .int 0, .int 0, .int 0] (fun j hj => (by decide : ∀ j, j < 16 → defaultValue (tyX3 j) = vp_V [.null, .null, .null, .null, .null, .null, .int 0, .int 0, .int 0, .int 0, .int 0, .int 0, .int 0, .int 0, .int 0, .int 0] j) j hj) (Nat.le_of_ble_eq_true rfl) (Nat.le_of_ble_eq_true rfl) dX5_init_36 (fun H1 hS => ?_)
  refine lv_dup hx hb dX5_init_39 rfl ?_
  refine r_call (q := n + 142) (D := D + 1) (bl := yb_X3 (n + 142)) hF hS (by simp only [List.length_append, List.length_cons, List.length_nil, List.append_eq, yl_X9, yl_X6, yl_X8, yl_X7, yl_X3]; omega) yi_X5_24 hl.1 rfl (by show _ + 9 ≤ _ + 8; omega) (by show 64 * (_ + 1) + 128 ≤ 64 * _ + 128; omega) (Nat.le_of_ble_eq_true rfl) (Nat.le_of_ble_eq_true rfl) (Nat.le_of_ble_eq_true rfl) dX5_init_40 (fun pre' h' => c_X3 (D := D + 0) _ pre' h') (fun H1 locs1 hS => ?_)
  refine r_aast (n := n + 1) (v := n + 142) hF hS (by rw [hn]) (yAt hn 142 rfl) (by unfold vp_in; decide) dX5_init_43 (fun H1 locs1 hS => ?_)
  refine lv_iinc (k := 0) (v := 11) (lv' := [(1, .int 11), (0, .ref (zad E n))]) hx hb dX5_init_44 hl rfl rfl (by decide) rfl (fun Ls hl => ?_)
  refine lv_goto (tgt := 25) hx hb dX5_init_47 (by decide) ?_
  refine lv_iload_n hx hb dX5_init_25 rfl (lv_at hl 0 rfl) ?_
  refine lv_bipush (v := (12 : Int32)) hx hb dX5_init_26 rfl ?_
  refine lv_icmp_ge (tgt := 50) hx hb dX5_init_28 (by decide) (fun g => absurd g (by decide)) (fun _ => ?_)
  refine lv_aload_n hx hb dX5_init_31 rfl (lv_at hl 1 rfl) ?_
  refine r_get (v := .ref (n + 1)) hF hS hn zg_X5_11 rfl dX5_init_32 ?_
  refine lv_iload_n hx hb dX5_init_35 rfl (lv_at hl 0 rfl) ?_
  refine r_new (q := n + 156) (ci := 3) hF hS (by simp only [List.length_append, List.length_cons, List.length_nil, List.append_eq, yl_X9, yl_X6, yl_X8, yl_X7, yl_X3]; omega) rfl zu_X3 tyX3 tyX3_ok zw_280 zw_97 zw_4 [.null, .null, .null, .null, .null, .null, .int 0, .int 0, .int 0, .int 0, .int 0, .int 0, .int 0, .int 0, .int 0, .int 0] (fun j hj => (by decide : ∀ j, j < 16 → defaultValue (tyX3 j) = vp_V [.null, .null, .null, .null, .null, .null, .int 0, .int 0, .int 0, .int 0, .int 0, .int 0, .int 0, .int 0, .int 0, .int 0] j) j hj) (Nat.le_of_ble_eq_true rfl) (Nat.le_of_ble_eq_true rfl) dX5_init_36 (fun H1 hS => ?_)
  refine lv_dup hx hb dX5_init_39 rfl ?_
  refine r_call (q := n + 156) (D := D + 1) (bl := yb_X3 (n + 156)) hF hS (by simp only [List.length_append, List.length_cons, List.length_nil, List.append_eq, yl_X9, yl_X6, yl_X8, yl_X7, yl_X3]; omega) yi_X5_24 hl.1 rfl (by show _ + 9 ≤ _ + 8; omega) (by show 64 * (_ + 1) + 128 ≤ 64 * _ + 128; omega) (Nat.le_of_ble_eq_true rfl) (Nat.le_of_ble_eq_true rfl) (Nat.le_of_ble_eq_true rfl) dX5_init_40 (fun pre' h' => c_X3 (D := D + 0) _ pre' h') (fun H1 locs1 hS => ?_)
  refine r_aast (n := n + 1) (v := n + 156) hF hS (by rw [hn]) (yAt hn 156 rfl) (by unfold vp_in; decide) dX5_init_43 (fun H1 locs1 hS => ?_)
  refine lv_iinc (k := 0) (v := 12) (lv' := [(1, .int 12), (0, .ref (zad E n))]) hx hb dX5_init_44 hl rfl rfl (by decide) rfl (fun Ls hl => ?_)
  refine lv_goto (tgt := 25) hx hb dX5_init_47 (by decide) ?_
  refine lv_iload_n hx hb dX5_init_25 rfl (lv_at hl 0 rfl) ?_
  refine lv_bipush (v := (12 : Int32)) hx hb dX5_init_26 rfl ?_
  refine lv_icmp_ge (tgt := 50) hx hb dX5_init_28 (by decide) (fun _ => ?_) (fun g => absurd (by decide) g)
  exact y_ret (D := 0) hF hS rfl (Nat.le_of_ble_eq_true rfl) (Nat.le_of_ble_eq_true rfl) dX5_init_50
def yb_X1 (n : Nat) : List yEnt := .inl (1, [.ref (n + 1), .ref (n + 8), .ref (n + 9), .ref (n + 10), .ref (n + 11)]) :: (((((([] : List yEnt) ++ yb_X6 (n + 1)) ++ [.inr (0, 5, (fun _ => 0), (fun _ => none))]) ++ [.inr (0, 5, (fun _ => 0), (fun _ => none))]) ++ [.inr (0, 5, (fun _ => 0), (fun _ => none))]) ++ [.inr (0, 5, (fun _ => 0), (fun _ => none))])
theorem yl_X1 (n : Nat) : (yb_X1 n).length = 12 := by simp only [yb_X1, List.length_append, List.length_cons, List.length_nil, yl_X9, yl_X6, yl_X8, yl_X7, yl_X3, yl_X5]
set_option maxRecDepth 20000 in
set_option maxHeartbeats 8000000 in
theorem c_X1 {E : zEv} {D : Nat} (n : Nat) (pre : List yEnt) (hn : pre.length = n) : yC E jX1_init (D + 1) 11 505 n (pre ++ [.inl (1, [.null, .null, .null, .null, .null])]) (pre ++ yb_X1 n) := by
  refine y_meth (by decide) (by decide) ?_
  intro p e s m args below meth c Ls hF hS hl
  have hx := hF.1
  have hb := hF.2.1
  have hts := hF.2.2.2.2.2.2.2.1
  refine lv_aload_n hx hb dX1_init_0 rfl (lv_at hl 0 rfl) ?_
  refine W.objInit hx hb hF.2.2.2.2.1 (hts _ zw_299) (hts _ zw_36) (hts _ zw_37) rfl (by rw [hF.2.2.2.1]; exact hl.1) rfl dX1_init_1 (by show 1 ≤ _ + 8; omega) (by show 2 * 0 + 0 + 12 ≤ 64 * _ + 128; omega) ?_
  refine W.eq (g2 := F0 m 4 Ls []) rfl ?_
  refine lv_aload_n hx hb dX1_init_4 rfl (lv_at hl 0 rfl) ?_
  refine r_new (q := n + 1) (ci := 5) hF hS (by simp only [List.length_append, List.length_cons, List.length_nil, List.append_eq, yl_X9, yl_X6, yl_X8, yl_X7, yl_X3, yl_X5]; omega) rfl zu_X6 tyX6 tyX6_ok zw_300 zw_64 zw_3 [.null, .null, .null, .null, .null, .null, .int 0, .int 0] (fun j hj => (by decide : ∀ j, j < 8 → defaultValue (tyX6 j) = vp_V [.null, .null, .null, .null, .null, .null, .int 0, .int 0] j) j hj) (Nat.le_of_ble_eq_true rfl) (Nat.le_of_ble_eq_true rfl) dX1_init_5 (fun H1 hS => ?_)
  refine lv_dup hx hb dX1_init_8 rfl ?_
  refine r_call (q := n + 1) (D := D + 0) (bl := yb_X6 (n + 1)) hF hS (by simp only [List.length_append, List.length_cons, List.length_nil, List.append_eq, yl_X9, yl_X6, yl_X8, yl_X7, yl_X3, yl_X5]; omega) yi_X1_11 hl.1 rfl (by show _ + 9 ≤ _ + 8; omega) (by show 64 * (_ + 1) + 128 ≤ 64 * _ + 128; omega) (Nat.le_of_ble_eq_true rfl) (Nat.le_of_ble_eq_true rfl) (Nat.le_of_ble_eq_true rfl) dX1_init_9 (fun pre' h' => c_X6 (D := D + 0) _ pre' h') (fun H1 locs1 hS => ?_)
  refine r_put [.ref (n + 1), .null, .null, .null, .null] (v := .ref (n + 1)) hF hS hn rfl yp_X1_12 (Nat.le_of_ble_eq_true rfl) rfl (by first | rfl | decide) (by first | rfl | decide) dX1_init_12 (fun H1 locs1 hS => ?_)
  refine lv_aload_n hx hb dX1_init_15 rfl (lv_at hl 0 rfl) ?_
  refine lv_iconst (v := (5 : Int32)) hx hb dX1_init_16 rfl ?_
  refine r_newI (q := n + 8) (N := 5) hF hS (by simp only [List.length_append, List.length_cons, List.length_nil, List.append_eq, yl_X9, yl_X6, yl_X8, yl_X7, yl_X3, yl_X5]; omega) zw_62 (by decide) rfl (by decide) (Nat.le_of_ble_eq_true rfl) (Nat.le_of_ble_eq_true rfl) dX1_init_17 (fun H1 hS => ?_)
  refine r_put [.ref (n + 1), .ref (n + 8), .null, .null, .null] (v := .ref (n + 8)) hF hS hn rfl yp_X1_18 (Nat.le_of_ble_eq_true rfl) rfl (by first | rfl | decide) (by first | rfl | decide) dX1_init_19 (fun H1 locs1 hS => ?_)
  refine lv_aload_n hx hb dX1_init_22 rfl (lv_at hl 0 rfl) ?_
  refine lv_iconst (v := (5 : Int32)) hx hb dX1_init_23 rfl ?_
  refine r_newI (q := n + 9) (N := 5) hF hS (by simp only [List.length_append, List.length_cons, List.length_nil, List.append_eq, yl_X9, yl_X6, yl_X8, yl_X7, yl_X3, yl_X5]; omega) zw_62 (by decide) rfl (by decide) (Nat.le_of_ble_eq_true rfl) (Nat.le_of_ble_eq_true rfl) dX1_init_24 (fun H1 hS => ?_)
  refine r_put [.ref (n + 1), .ref (n + 8), .ref (n + 9), .null, .null] (v := .ref (n + 9)) hF hS hn rfl yp_X1_22 (Nat.le_of_ble_eq_true rfl) rfl (by first | rfl | decide) (by first | rfl | decide) dX1_init_26 (fun H1 locs1 hS => ?_)
  refine lv_aload_n hx hb dX1_init_29 rfl (lv_at hl 0 rfl) ?_
  refine lv_iconst (v := (5 : Int32)) hx hb dX1_init_30 rfl ?_
  refine r_newI (q := n + 10) (N := 5) hF hS (by simp only [List.length_append, List.length_cons, List.length_nil, List.append_eq, yl_X9, yl_X6, yl_X8, yl_X7, yl_X3, yl_X5]; omega) zw_62 (by decide) rfl (by decide) (Nat.le_of_ble_eq_true rfl) (Nat.le_of_ble_eq_true rfl) dX1_init_31 (fun H1 hS => ?_)
  refine r_put [.ref (n + 1), .ref (n + 8), .ref (n + 9), .ref (n + 10), .null] (v := .ref (n + 10)) hF hS hn rfl yp_X1_25 (Nat.le_of_ble_eq_true rfl) rfl (by first | rfl | decide) (by first | rfl | decide) dX1_init_33 (fun H1 locs1 hS => ?_)
  refine lv_aload_n hx hb dX1_init_36 rfl (lv_at hl 0 rfl) ?_
  refine lv_iconst (v := (5 : Int32)) hx hb dX1_init_37 rfl ?_
  refine r_newI (q := n + 11) (N := 5) hF hS (by simp only [List.length_append, List.length_cons, List.length_nil, List.append_eq, yl_X9, yl_X6, yl_X8, yl_X7, yl_X3, yl_X5]; omega) zw_62 (by decide) rfl (by decide) (Nat.le_of_ble_eq_true rfl) (Nat.le_of_ble_eq_true rfl) dX1_init_38 (fun H1 hS => ?_)
  refine r_put [.ref (n + 1), .ref (n + 8), .ref (n + 9), .ref (n + 10), .ref (n + 11)] (v := .ref (n + 11)) hF hS hn rfl yp_X1_28 (Nat.le_of_ble_eq_true rfl) rfl (by first | rfl | decide) (by first | rfl | decide) dX1_init_40 (fun H1 locs1 hS => ?_)
  exact y_ret (D := 0) hF hS rfl (Nat.le_of_ble_eq_true rfl) (Nat.le_of_ble_eq_true rfl) dX1_init_43
def yb_X10 (n : Nat) : List yEnt := .inl (9, [.ref (n + 1), .ref (n + 2), .ref (n + 3), .ref (n + 4)]) :: ((((([] : List yEnt) ++ [.inr (0, 320, (fun _ => 0), (fun _ => none))]) ++ [.inr (0, 512, (fun _ => 0), (fun _ => none))]) ++ [.inr (0, 64, (fun _ => 0), (fun _ => none))]) ++ [.inr (0, 256, (fun _ => 0), (fun _ => none))])
theorem yl_X10 (n : Nat) : (yb_X10 n).length = 5 := by simp only [yb_X10, List.length_append, List.length_cons, List.length_nil, yl_X9, yl_X6, yl_X8, yl_X7, yl_X3, yl_X5, yl_X1]
set_option maxRecDepth 20000 in
set_option maxHeartbeats 8000000 in
theorem c_X10 {E : zEv} {D : Nat} (n : Nat) (pre : List yEnt) (hn : pre.length = n) : yC E jX10_init (D + 0) 4 1152 n (pre ++ [.inl (9, [.null, .null, .null, .null])]) (pre ++ yb_X10 n) := by
  refine y_meth (by decide) (by decide) ?_
  intro p e s m args below meth c Ls hF hS hl
  have hx := hF.1
  have hb := hF.2.1
  have hts := hF.2.2.2.2.2.2.2.1
  refine lv_aload_n hx hb dX10_init_0 rfl (lv_at hl 0 rfl) ?_
  refine W.objInit hx hb hF.2.2.2.2.1 (hts _ zw_328) (hts _ zw_36) (hts _ zw_37) rfl (by rw [hF.2.2.2.1]; exact hl.1) rfl dX10_init_1 (by show 1 ≤ _ + 8; omega) (by show 2 * 0 + 0 + 12 ≤ 64 * _ + 128; omega) ?_
  refine W.eq (g2 := F0 m 4 Ls []) rfl ?_
  refine lv_aload_n hx hb dX10_init_4 rfl (lv_at hl 0 rfl) ?_
  refine lv_sipush (v := (320 : Int32)) hx hb dX10_init_5 rfl ?_
  refine r_newI (q := n + 1) (N := 320) hF hS (by simp only [List.length_append, List.length_cons, List.length_nil, List.append_eq, yl_X9, yl_X6, yl_X8, yl_X7, yl_X3, yl_X5, yl_X1]; omega) zw_62 (by decide) rfl (by decide) (Nat.le_of_ble_eq_true rfl) (Nat.le_of_ble_eq_true rfl) dX10_init_8 (fun H1 hS => ?_)
  refine r_put [.ref (n + 1), .null, .null, .null] (v := .ref (n + 1)) hF hS hn rfl yp_X10_9 (Nat.le_of_ble_eq_true rfl) rfl (by first | rfl | decide) (by first | rfl | decide) dX10_init_10 (fun H1 locs1 hS => ?_)
  refine lv_aload_n hx hb dX10_init_13 rfl (lv_at hl 0 rfl) ?_
  refine lv_sipush (v := (512 : Int32)) hx hb dX10_init_14 rfl ?_
  refine r_newI (q := n + 2) (N := 512) hF hS (by simp only [List.length_append, List.length_cons, List.length_nil, List.append_eq, yl_X9, yl_X6, yl_X8, yl_X7, yl_X3, yl_X5, yl_X1]; omega) zw_62 (by decide) rfl (by decide) (Nat.le_of_ble_eq_true rfl) (Nat.le_of_ble_eq_true rfl) dX10_init_17 (fun H1 hS => ?_)
  refine r_put [.ref (n + 1), .ref (n + 2), .null, .null] (v := .ref (n + 2)) hF hS hn rfl yp_X10_15 (Nat.le_of_ble_eq_true rfl) rfl (by first | rfl | decide) (by first | rfl | decide) dX10_init_19 (fun H1 locs1 hS => ?_)
  refine lv_aload_n hx hb dX10_init_22 rfl (lv_at hl 0 rfl) ?_
  refine lv_bipush (v := (64 : Int32)) hx hb dX10_init_23 rfl ?_
  refine r_newI (q := n + 3) (N := 64) hF hS (by simp only [List.length_append, List.length_cons, List.length_nil, List.append_eq, yl_X9, yl_X6, yl_X8, yl_X7, yl_X3, yl_X5, yl_X1]; omega) zw_62 (by decide) rfl (by decide) (Nat.le_of_ble_eq_true rfl) (Nat.le_of_ble_eq_true rfl) dX10_init_25 (fun H1 hS => ?_)
  refine r_put [.ref (n + 1), .ref (n + 2), .ref (n + 3), .null] (v := .ref (n + 3)) hF hS hn rfl yp_X10_18 (Nat.le_of_ble_eq_true rfl) rfl (by first | rfl | decide) (by first | rfl | decide) dX10_init_27 (fun H1 locs1 hS => ?_)
  refine lv_aload_n hx hb dX10_init_30 rfl (lv_at hl 0 rfl) ?_
  refine lv_sipush (v := (256 : Int32)) hx hb dX10_init_31 rfl ?_
  refine r_newI (q := n + 4) (N := 256) hF hS (by simp only [List.length_append, List.length_cons, List.length_nil, List.append_eq, yl_X9, yl_X6, yl_X8, yl_X7, yl_X3, yl_X5, yl_X1]; omega) zw_62 (by decide) rfl (by decide) (Nat.le_of_ble_eq_true rfl) (Nat.le_of_ble_eq_true rfl) dX10_init_34 (fun H1 hS => ?_)
  refine r_put [.ref (n + 1), .ref (n + 2), .ref (n + 3), .ref (n + 4)] (v := .ref (n + 4)) hF hS hn rfl yp_X10_21 (Nat.le_of_ble_eq_true rfl) rfl (by first | rfl | decide) (by first | rfl | decide) dX10_init_36 (fun H1 locs1 hS => ?_)
  exact y_ret (D := 0) hF hS rfl (Nat.le_of_ble_eq_true rfl) (Nat.le_of_ble_eq_true rfl) dX10_init_39
def yb_X0 (n : Nat) : List yEnt := .inl (0, [.ref (n + 1), .ref (n + 2), .int (-1), .int (-1)]) :: ((([] : List yEnt) ++ [.inr (0, 5, (fun _ => 0), (fun _ => none))]) ++ [.inr (0, 5, (fun _ => 0), (fun _ => none))])
theorem yl_X0 (n : Nat) : (yb_X0 n).length = 3 := by simp only [yb_X0, List.length_append, List.length_cons, List.length_nil, yl_X9, yl_X6, yl_X8, yl_X7, yl_X3, yl_X5, yl_X1, yl_X10]
set_option maxRecDepth 20000 in
set_option maxHeartbeats 8000000 in
theorem c_X0 {E : zEv} {D : Nat} (n : Nat) (pre : List yEnt) (hn : pre.length = n) : yC E jX0_init (D + 0) 2 10 n (pre ++ [.inl (0, [.null, .null, .int 0, .int 0])]) (pre ++ yb_X0 n) := by
  refine y_meth (by decide) (by decide) ?_
  intro p e s m args below meth c Ls hF hS hl
  have hx := hF.1
  have hb := hF.2.1
  have hts := hF.2.2.2.2.2.2.2.1
  refine lv_aload_n hx hb dX0_init_0 rfl (lv_at hl 0 rfl) ?_
  refine W.objInit hx hb hF.2.2.2.2.1 (hts _ zw_347) (hts _ zw_36) (hts _ zw_37) rfl (by rw [hF.2.2.2.1]; exact hl.1) rfl dX0_init_1 (by show 1 ≤ _ + 8; omega) (by show 2 * 0 + 0 + 12 ≤ 64 * _ + 128; omega) ?_
  refine W.eq (g2 := F0 m 4 Ls []) rfl ?_
  refine lv_aload_n hx hb dX0_init_4 rfl (lv_at hl 0 rfl) ?_
  refine lv_iconst (v := (5 : Int32)) hx hb dX0_init_5 rfl ?_
  refine r_newI (q := n + 1) (N := 5) hF hS (by simp only [List.length_append, List.length_cons, List.length_nil, List.append_eq, yl_X9, yl_X6, yl_X8, yl_X7, yl_X3, yl_X5, yl_X1, yl_X10]; omega) zw_62 (by decide) rfl (by decide) (Nat.le_of_ble_eq_true rfl) (Nat.le_of_ble_eq_true rfl) dX0_init_6 (fun H1 hS => ?_)
  refine r_put [.ref (n + 1), .null, .int 0, .int 0] (v := .ref (n + 1)) hF hS hn rfl yp_X0_9 (Nat.le_of_ble_eq_true rfl) rfl (by first | rfl | decide) (by first | rfl | decide) dX0_init_8 (fun H1 locs1 hS => ?_)
  refine lv_aload_n hx hb dX0_init_11 rfl (lv_at hl 0 rfl) ?_
  refine lv_iconst (v := (5 : Int32)) hx hb dX0_init_12 rfl ?_
  refine r_newI (q := n + 2) (N := 5) hF hS (by simp only [List.length_append, List.length_cons, List.length_nil, List.append_eq, yl_X9, yl_X6, yl_X8, yl_X7, yl_X3, yl_X5, yl_X1, yl_X10]; omega) zw_62 (by decide) rfl (by decide) (Nat.le_of_ble_eq_true rfl) (Nat.le_of_ble_eq_true rfl) dX0_init_13 (fun H1 hS => ?_)
  refine r_put [.ref (n + 1), .ref (n + 2), .int 0, .int 0] (v := .ref (n + 2)) hF hS hn rfl yp_X0_15 (Nat.le_of_ble_eq_true rfl) rfl (by first | rfl | decide) (by first | rfl | decide) dX0_init_15 (fun H1 locs1 hS => ?_)
  refine lv_aload_n hx hb dX0_init_18 rfl (lv_at hl 0 rfl) ?_
  refine lv_iconst (v := (-1 : Int32)) hx hb dX0_init_19 rfl ?_
  refine r_put [.ref (n + 1), .ref (n + 2), .int (-1), .int 0] (v := .int (-1)) hF hS hn rfl yp_X0_18 (Nat.le_of_ble_eq_true rfl) rfl (by first | rfl | decide) (by first | rfl | decide) dX0_init_20 (fun H1 locs1 hS => ?_)
  refine lv_aload_n hx hb dX0_init_23 rfl (lv_at hl 0 rfl) ?_
  refine lv_iconst (v := (-1 : Int32)) hx hb dX0_init_24 rfl ?_
  refine r_put [.ref (n + 1), .ref (n + 2), .int (-1), .int (-1)] (v := .int (-1)) hF hS hn rfl yp_X0_22 (Nat.le_of_ble_eq_true rfl) rfl (by first | rfl | decide) (by first | rfl | decide) dX0_init_25 (fun H1 locs1 hS => ?_)
  exact y_ret (D := 0) hF hS rfl (Nat.le_of_ble_eq_true rfl) (Nat.le_of_ble_eq_true rfl) dX0_init_28
def yb_X2 (n : Nat) : List yEnt := .inl (2, [.ref (n + 1), .ref (n + 2), .int (-1)]) :: ((([] : List yEnt) ++ [.inr (0, 4, (fun _ => 0), (fun _ => none))]) ++ [.inr (0, 4, (fun _ => 0), (fun _ => none))])
theorem yl_X2 (n : Nat) : (yb_X2 n).length = 3 := by simp only [yb_X2, List.length_append, List.length_cons, List.length_nil, yl_X9, yl_X6, yl_X8, yl_X7, yl_X3, yl_X5, yl_X1, yl_X10, yl_X0]
set_option maxRecDepth 20000 in
set_option maxHeartbeats 8000000 in
theorem c_X2 {E : zEv} {D : Nat} (n : Nat) (pre : List yEnt) (hn : pre.length = n) : yC E jX2_init (D + 0) 2 8 n (pre ++ [.inl (2, [.null, .null, .int 0])]) (pre ++ yb_X2 n) := by
  refine y_meth (by decide) (by decide) ?_
  intro p e s m args below meth c Ls hF hS hl
  have hx := hF.1
  have hb := hF.2.1
  have hts := hF.2.2.2.2.2.2.2.1
  refine lv_aload_n hx hb dX2_init_0 rfl (lv_at hl 0 rfl) ?_
  refine W.objInit hx hb hF.2.2.2.2.1 (hts _ zw_368) (hts _ zw_36) (hts _ zw_37) rfl (by rw [hF.2.2.2.1]; exact hl.1) rfl dX2_init_1 (by show 1 ≤ _ + 8; omega) (by show 2 * 0 + 0 + 12 ≤ 64 * _ + 128; omega) ?_
  refine W.eq (g2 := F0 m 4 Ls []) rfl ?_
  refine lv_aload_n hx hb dX2_init_4 rfl (lv_at hl 0 rfl) ?_
  refine lv_iconst (v := (4 : Int32)) hx hb dX2_init_5 rfl ?_
  refine r_newI (q := n + 1) (N := 4) hF hS (by simp only [List.length_append, List.length_cons, List.length_nil, List.append_eq, yl_X9, yl_X6, yl_X8, yl_X7, yl_X3, yl_X5, yl_X1, yl_X10, yl_X0]; omega) zw_62 (by decide) rfl (by decide) (Nat.le_of_ble_eq_true rfl) (Nat.le_of_ble_eq_true rfl) dX2_init_6 (fun H1 hS => ?_)
  refine r_put [.ref (n + 1), .null, .int 0] (v := .ref (n + 1)) hF hS hn rfl yp_X2_9 (Nat.le_of_ble_eq_true rfl) rfl (by first | rfl | decide) (by first | rfl | decide) dX2_init_8 (fun H1 locs1 hS => ?_)
  refine lv_aload_n hx hb dX2_init_11 rfl (lv_at hl 0 rfl) ?_
  refine lv_iconst (v := (4 : Int32)) hx hb dX2_init_12 rfl ?_
  refine r_newI (q := n + 2) (N := 4) hF hS (by simp only [List.length_append, List.length_cons, List.length_nil, List.append_eq, yl_X9, yl_X6, yl_X8, yl_X7, yl_X3, yl_X5, yl_X1, yl_X10, yl_X0]; omega) zw_62 (by decide) rfl (by decide) (Nat.le_of_ble_eq_true rfl) (Nat.le_of_ble_eq_true rfl) dX2_init_13 (fun H1 hS => ?_)
  refine r_put [.ref (n + 1), .ref (n + 2), .int 0] (v := .ref (n + 2)) hF hS hn rfl yp_X2_15 (Nat.le_of_ble_eq_true rfl) rfl (by first | rfl | decide) (by first | rfl | decide) dX2_init_15 (fun H1 locs1 hS => ?_)
  refine lv_aload_n hx hb dX2_init_18 rfl (lv_at hl 0 rfl) ?_
  refine lv_iconst (v := (-1 : Int32)) hx hb dX2_init_19 rfl ?_
  refine r_put [.ref (n + 1), .ref (n + 2), .int (-1)] (v := .int (-1)) hF hS hn rfl yp_X2_18 (Nat.le_of_ble_eq_true rfl) rfl (by first | rfl | decide) (by first | rfl | decide) dX2_init_20 (fun H1 locs1 hS => ?_)
  exact y_ret (D := 0) hF hS rfl (Nat.le_of_ble_eq_true rfl) (Nat.le_of_ble_eq_true rfl) dX2_init_23
def yb_X11 (n : Nat) : List yEnt := .inl (10, [.ref (n + 1), .ref (n + 3), .ref (n + 10), .ref (n + 17), .ref (n + 31), .ref (n + 45), .ref (n + 59), .ref (n + 229), .ref (n + 241), .ref (n + 246), .ref (n + 249), .int (-1), .int 0]) :: (((((((((((([] : List yEnt) ++ yb_X9 (n + 1)) ++ yb_X6 (n + 3)) ++ yb_X6 (n + 10)) ++ yb_X3 (n + 17)) ++ yb_X3 (n + 31)) ++ yb_X3 (n + 45)) ++ yb_X5 (n + 59)) ++ yb_X1 (n + 229)) ++ yb_X10 (n + 241)) ++ yb_X0 (n + 246)) ++ yb_X2 (n + 249))
theorem yl_X11 (n : Nat) : (yb_X11 n).length = 252 := by simp only [yb_X11, List.length_append, List.length_cons, List.length_nil, yl_X9, yl_X6, yl_X8, yl_X7, yl_X3, yl_X5, yl_X1, yl_X10, yl_X0, yl_X2]
set_option maxRecDepth 20000 in
set_option maxHeartbeats 8000000 in
theorem c_X11 {E : zEv} {D : Nat} (n : Nat) (pre : List yEnt) (hn : pre.length = n) : yC E jX11_init (D + 3) 251 5181 n (pre ++ [.inl (10, [.null, .null, .null, .null, .null, .null, .null, .null, .null, .null, .null, .int 0, .int 0])]) (pre ++ yb_X11 n) := by
  refine y_meth (by decide) (by decide) ?_
  intro p e s m args below meth c Ls hF hS hl
  have hx := hF.1
  have hb := hF.2.1
  have hts := hF.2.2.2.2.2.2.2.1
  refine lv_aload_n hx hb dX11_init_0 rfl (lv_at hl 0 rfl) ?_
  refine W.objInit hx hb hF.2.2.2.2.1 (hts _ zw_35) (hts _ zw_36) (hts _ zw_37) rfl (by rw [hF.2.2.2.1]; exact hl.1) rfl dX11_init_1 (by show 1 ≤ _ + 8; omega) (by show 2 * 0 + 0 + 12 ≤ 64 * _ + 128; omega) ?_
  refine W.eq (g2 := F0 m 4 Ls []) rfl ?_
  refine lv_aload_n hx hb dX11_init_4 rfl (lv_at hl 0 rfl) ?_
  refine r_new (q := n + 1) (ci := 8) hF hS (by simp only [List.length_append, List.length_cons, List.length_nil, List.append_eq, yl_X9, yl_X6, yl_X8, yl_X7, yl_X3, yl_X5, yl_X1, yl_X10, yl_X0, yl_X2]; omega) rfl zu_X9 tyX9 tyX9_ok zw_38 zw_39 zw_2 [.null, .int 0, .int 0, .int 0, .int 0] (fun j hj => (by decide : ∀ j, j < 5 → defaultValue (tyX9 j) = vp_V [.null, .int 0, .int 0, .int 0, .int 0] j) j hj) (Nat.le_of_ble_eq_true rfl) (Nat.le_of_ble_eq_true rfl) dX11_init_5 (fun H1 hS => ?_)
  refine lv_dup hx hb dX11_init_8 rfl ?_
  refine r_call (q := n + 1) (D := D + 2) (bl := yb_X9 (n + 1)) hF hS (by simp only [List.length_append, List.length_cons, List.length_nil, List.append_eq, yl_X9, yl_X6, yl_X8, yl_X7, yl_X3, yl_X5, yl_X1, yl_X10, yl_X0, yl_X2]; omega) yi_X11_9 hl.1 rfl (by show _ + 9 ≤ _ + 8; omega) (by show 64 * (_ + 1) + 128 ≤ 64 * _ + 128; omega) (Nat.le_of_ble_eq_true rfl) (Nat.le_of_ble_eq_true rfl) (Nat.le_of_ble_eq_true rfl) dX11_init_9 (fun pre' h' => c_X9 (D := D + 2) _ pre' h') (fun H1 locs1 hS => ?_)
  refine r_put [.ref (n + 1), .null, .null, .null, .null, .null, .null, .null, .null, .null, .null, .int 0, .int 0] (v := .ref (n + 1)) hF hS hn rfl yp_X11_10 (Nat.le_of_ble_eq_true rfl) rfl (by first | rfl | decide) (by first | rfl | decide) dX11_init_12 (fun H1 locs1 hS => ?_)
  refine lv_aload_n hx hb dX11_init_15 rfl (lv_at hl 0 rfl) ?_
  refine r_new (q := n + 3) (ci := 5) hF hS (by simp only [List.length_append, List.length_cons, List.length_nil, List.append_eq, yl_X9, yl_X6, yl_X8, yl_X7, yl_X3, yl_X5, yl_X1, yl_X10, yl_X0, yl_X2]; omega) rfl zu_X6 tyX6 tyX6_ok zw_63 zw_64 zw_3 [.null, .null, .null, .null, .null, .null, .int 0, .int 0] (fun j hj => (by decide : ∀ j, j < 8 → defaultValue (tyX6 j) = vp_V [.null, .null, .null, .null, .null, .null, .int 0, .int 0] j) j hj) (Nat.le_of_ble_eq_true rfl) (Nat.le_of_ble_eq_true rfl) dX11_init_16 (fun H1 hS => ?_)
  refine lv_dup hx hb dX11_init_19 rfl ?_
  refine r_call (q := n + 3) (D := D + 2) (bl := yb_X6 (n + 3)) hF hS (by simp only [List.length_append, List.length_cons, List.length_nil, List.append_eq, yl_X9, yl_X6, yl_X8, yl_X7, yl_X3, yl_X5, yl_X1, yl_X10, yl_X0, yl_X2]; omega) yi_X11_18 hl.1 rfl (by show _ + 9 ≤ _ + 8; omega) (by show 64 * (_ + 1) + 128 ≤ 64 * _ + 128; omega) (Nat.le_of_ble_eq_true rfl) (Nat.le_of_ble_eq_true rfl) (Nat.le_of_ble_eq_true rfl) dX11_init_20 (fun pre' h' => c_X6 (D := D + 2) _ pre' h') (fun H1 locs1 hS => ?_)
  refine r_put [.ref (n + 1), .ref (n + 3), .null, .null, .null, .null, .null, .null, .null, .null, .null, .int 0, .int 0] (v := .ref (n + 3)) hF hS hn rfl yp_X11_19 (Nat.le_of_ble_eq_true rfl) rfl (by first | rfl | decide) (by first | rfl | decide) dX11_init_23 (fun H1 locs1 hS => ?_)
  refine lv_aload_n hx hb dX11_init_26 rfl (lv_at hl 0 rfl) ?_
  refine r_new (q := n + 10) (ci := 5) hF hS (by simp only [List.length_append, List.length_cons, List.length_nil, List.append_eq, yl_X9, yl_X6, yl_X8, yl_X7, yl_X3, yl_X5, yl_X1, yl_X10, yl_X0, yl_X2]; omega) rfl zu_X6 tyX6 tyX6_ok zw_63 zw_64 zw_3 [.null, .null, .null, .null, .null, .null, .int 0, .int 0] (fun j hj => (by decide : ∀ j, j < 8 → defaultValue (tyX6 j) = vp_V [.null, .null, .null, .null, .null, .null, .int 0, .int 0] j) j hj) (Nat.le_of_ble_eq_true rfl) (Nat.le_of_ble_eq_true rfl) dX11_init_27 (fun H1 hS => ?_)
  refine lv_dup hx hb dX11_init_30 rfl ?_
  refine r_call (q := n + 10) (D := D + 2) (bl := yb_X6 (n + 10)) hF hS (by simp only [List.length_append, List.length_cons, List.length_nil, List.append_eq, yl_X9, yl_X6, yl_X8, yl_X7, yl_X3, yl_X5, yl_X1, yl_X10, yl_X0, yl_X2]; omega) yi_X11_18 hl.1 rfl (by show _ + 9 ≤ _ + 8; omega) (by show 64 * (_ + 1) + 128 ≤ 64 * _ + 128; omega) (Nat.le_of_ble_eq_true rfl) (Nat.le_of_ble_eq_true rfl) (Nat.le_of_ble_eq_true rfl) dX11_init_31 (fun pre' h' => c_X6 (D := D + 2) _ pre' h') (fun H1 locs1 hS => ?_)
  refine r_put [.ref (n + 1), .ref (n + 3), .ref (n + 10), .null, .null, .null, .null, .null, .null, .null, .null, .int 0, .int 0] (v := .ref (n + 10)) hF hS hn rfl yp_X11_23 (Nat.le_of_ble_eq_true rfl) rfl (by first | rfl | decide) (by first | rfl | decide) dX11_init_34 (fun H1 locs1 hS => ?_)
  refine lv_aload_n hx hb dX11_init_37 rfl (lv_at hl 0 rfl) ?_
  refine r_new (q := n + 17) (ci := 3) hF hS (by simp only [List.length_append, List.length_cons, List.length_nil, List.append_eq, yl_X9, yl_X6, yl_X8, yl_X7, yl_X3, yl_X5, yl_X1, yl_X10, yl_X0, yl_X2]; omega) rfl zu_X3 tyX3 tyX3_ok zw_96 zw_97 zw_4 [.null, .null, .null, .null, .null, .null, .int 0, .int 0, .int 0, .int 0, .int 0, .int 0, .int 0, .int 0, .int 0, .int 0] (fun j hj => (by decide : ∀ j, j < 16 → defaultValue (tyX3 j) = vp_V [.null, .null, .null, .null, .null, .null, .int 0, .int 0, .int 0, .int 0, .int 0, .int 0, .int 0, .int 0, .int 0, .int 0] j) j hj) (Nat.le_of_ble_eq_true rfl) (Nat.le_of_ble_eq_true rfl) dX11_init_38 (fun H1 hS => ?_)
  refine lv_dup hx hb dX11_init_41 rfl ?_
  refine r_call (q := n + 17) (D := D + 2) (bl := yb_X3 (n + 17)) hF hS (by simp only [List.length_append, List.length_cons, List.length_nil, List.append_eq, yl_X9, yl_X6, yl_X8, yl_X7, yl_X3, yl_X5, yl_X1, yl_X10, yl_X0, yl_X2]; omega) yi_X11_28 hl.1 rfl (by show _ + 9 ≤ _ + 8; omega) (by show 64 * (_ + 1) + 128 ≤ 64 * _ + 128; omega) (Nat.le_of_ble_eq_true rfl) (Nat.le_of_ble_eq_true rfl) (Nat.le_of_ble_eq_true rfl) dX11_init_42 (fun pre' h' => c_X3 (D := D + 1) _ pre' h') (fun H1 locs1 hS => ?_)
  refine r_put [.ref (n + 1), .ref (n + 3), .ref (n + 10), .ref (n + 17), .null, .null, .null, .null, .null, .null, .null, .int 0, .int 0] (v := .ref (n + 17)) hF hS hn rfl yp_X11_29 (Nat.le_of_ble_eq_true rfl) rfl (by first | rfl | decide) (by first | rfl | decide) dX11_init_45 (fun H1 locs1 hS => ?_)
  refine lv_aload_n hx hb dX11_init_48 rfl (lv_at hl 0 rfl) ?_
  refine r_new (q := n + 31) (ci := 3) hF hS (by simp only [List.length_append, List.length_cons, List.length_nil, List.append_eq, yl_X9, yl_X6, yl_X8, yl_X7, yl_X3, yl_X5, yl_X1, yl_X10, yl_X0, yl_X2]; omega) rfl zu_X3 tyX3 tyX3_ok zw_96 zw_97 zw_4 [.null, .null, .null, .null, .null, .null, .int 0, .int 0, .int 0, .int 0, .int 0, .int 0, .int 0, .int 0, .int 0, .int 0] (fun j hj => (by decide : ∀ j, j < 16 → defaultValue (tyX3 j) = vp_V [.null, .null, .null, .null, .null, .null, .int 0, .int 0, .int 0, .int 0, .int 0, .int 0, .int 0, .int 0, .int 0, .int 0] j) j hj) (Nat.le_of_ble_eq_true rfl) (Nat.le_of_ble_eq_true rfl) dX11_init_49 (fun H1 hS => ?_)
  refine lv_dup hx hb dX11_init_52 rfl ?_
  refine r_call (q := n + 31) (D := D + 2) (bl := yb_X3 (n + 31)) hF hS (by simp only [List.length_append, List.length_cons, List.length_nil, List.append_eq, yl_X9, yl_X6, yl_X8, yl_X7, yl_X3, yl_X5, yl_X1, yl_X10, yl_X0, yl_X2]; omega) yi_X11_28 hl.1 rfl (by show _ + 9 ≤ _ + 8; omega) (by show 64 * (_ + 1) + 128 ≤ 64 * _ + 128; omega) (Nat.le_of_ble_eq_true rfl) (Nat.le_of_ble_eq_true rfl) (Nat.le_of_ble_eq_true rfl) dX11_init_53 (fun pre' h' => c_X3 (D := D + 1) _ pre' h') (fun H1 locs1 hS => ?_)
  refine r_put [.ref (n + 1), .ref (n + 3), .ref (n + 10), .ref (n + 17), .ref (n + 31), .null, .null, .null, .null, .null, .null, .int 0, .int 0] (v := .ref (n + 31)) hF hS hn rfl yp_X11_33 (Nat.le_of_ble_eq_true rfl) rfl (by first | rfl | decide) (by first | rfl | decide) dX11_init_56 (fun H1 locs1 hS => ?_)
  refine lv_aload_n hx hb dX11_init_59 rfl (lv_at hl 0 rfl) ?_
  refine r_new (q := n + 45) (ci := 3) hF hS (by simp only [List.length_append, List.length_cons, List.length_nil, List.append_eq, yl_X9, yl_X6, yl_X8, yl_X7, yl_X3, yl_X5, yl_X1, yl_X10, yl_X0, yl_X2]; omega) rfl zu_X3 tyX3 tyX3_ok zw_96 zw_97 zw_4 [.null, .null, .null, .null, .null, .null, .int 0, .int 0, .int 0, .int 0, .int 0, .int 0, .int 0, .int 0, .int 0, .int 0] (fun j hj => (by decide : ∀ j, j < 16 → defaultValue (tyX3 j) = vp_V [.null, .null, .null, .null, .null, .null, .int 0, .int 0, .int 0, .int 0, .int 0, .int 0, .int 0, .int 0, .int 0, .int 0] j) j hj) (Nat.le_of_ble_eq_true rfl) (Nat.le_of_ble_eq_true rfl) dX11_init_60 (fun H1 hS => ?_)
  refine lv_dup hx hb dX11_init_63 rfl ?_
  refine r_call (q := n + 45) (D := D + 2) (bl := yb_X3 (n + 45)) hF hS (by simp only [List.length_append, List.length_cons, List.length_nil, List.append_eq, yl_X9, yl_X6, yl_X8, yl_X7, yl_X3, yl_X5, yl_X1, yl_X10, yl_X0, yl_X2]; omega) yi_X11_28 hl.1 rfl (by show _ + 9 ≤ _ + 8; omega) (by show 64 * (_ + 1) + 128 ≤ 64 * _ + 128; omega) (Nat.le_of_ble_eq_true rfl) (Nat.le_of_ble_eq_true rfl) (Nat.le_of_ble_eq_true rfl) dX11_init_64 (fun pre' h' => c_X3 (D := D + 1) _ pre' h') (fun H1 locs1 hS => ?_)
  refine r_put [.ref (n + 1), .ref (n + 3), .ref (n + 10), .ref (n + 17), .ref (n + 31), .ref (n + 45), .null, .null, .null, .null, .null, .int 0, .int 0] (v := .ref (n + 45)) hF hS hn rfl yp_X11_36 (Nat.le_of_ble_eq_true rfl) rfl (by first | rfl | decide) (by first | rfl | decide) dX11_init_67 (fun H1 locs1 hS => ?_)
  refine lv_aload_n hx hb dX11_init_70 rfl (lv_at hl 0 rfl) ?_
  refine r_new (q := n + 59) (ci := 4) hF hS (by simp only [List.length_append, List.length_cons, List.length_nil, List.append_eq, yl_X9, yl_X6, yl_X8, yl_X7, yl_X3, yl_X5, yl_X1, yl_X10, yl_X0, yl_X2]; omega) rfl zu_X5 tyX5 tyX5_ok zw_274 zw_275 zw_7 [.null, .int 0, .int 0] (fun j hj => (by decide : ∀ j, j < 3 → defaultValue (tyX5 j) = vp_V [.null, .int 0, .int 0] j) j hj) (Nat.le_of_ble_eq_true rfl) (Nat.le_of_ble_eq_true rfl) dX11_init_71 (fun H1 hS => ?_)
  refine lv_dup hx hb dX11_init_74 rfl ?_
  refine r_call (q := n + 59) (D := D + 2) (bl := yb_X5 (n + 59)) hF hS (by simp only [List.length_append, List.length_cons, List.length_nil, List.append_eq, yl_X9, yl_X6, yl_X8, yl_X7, yl_X3, yl_X5, yl_X1, yl_X10, yl_X0, yl_X2]; omega) yi_X11_41 hl.1 rfl (by show _ + 9 ≤ _ + 8; omega) (by show 64 * (_ + 1) + 128 ≤ 64 * _ + 128; omega) (Nat.le_of_ble_eq_true rfl) (Nat.le_of_ble_eq_true rfl) (Nat.le_of_ble_eq_true rfl) dX11_init_75 (fun pre' h' => c_X5 (D := D + 0) _ pre' h') (fun H1 locs1 hS => ?_)
  refine r_put [.ref (n + 1), .ref (n + 3), .ref (n + 10), .ref (n + 17), .ref (n + 31), .ref (n + 45), .ref (n + 59), .null, .null, .null, .null, .int 0, .int 0] (v := .ref (n + 59)) hF hS hn rfl yp_X11_42 (Nat.le_of_ble_eq_true rfl) rfl (by first | rfl | decide) (by first | rfl | decide) dX11_init_78 (fun H1 locs1 hS => ?_)
  refine lv_aload_n hx hb dX11_init_81 rfl (lv_at hl 0 rfl) ?_
  refine r_new (q := n + 229) (ci := 1) hF hS (by simp only [List.length_append, List.length_cons, List.length_nil, List.append_eq, yl_X9, yl_X6, yl_X8, yl_X7, yl_X3, yl_X5, yl_X1, yl_X10, yl_X0, yl_X2]; omega) rfl zu_X1 tyX1 tyX1_ok zw_294 zw_295 zw_8 [.null, .null, .null, .null, .null] (fun j hj => (by decide : ∀ j, j < 5 → defaultValue (tyX1 j) = vp_V [.null, .null, .null, .null, .null] j) j hj) (Nat.le_of_ble_eq_true rfl) (Nat.le_of_ble_eq_true rfl) dX11_init_82 (fun H1 hS => ?_)
  refine lv_dup hx hb dX11_init_85 rfl ?_
  refine r_call (q := n + 229) (D := D + 2) (bl := yb_X1 (n + 229)) hF hS (by simp only [List.length_append, List.length_cons, List.length_nil, List.append_eq, yl_X9, yl_X6, yl_X8, yl_X7, yl_X3, yl_X5, yl_X1, yl_X10, yl_X0, yl_X2]; omega) yi_X11_48 hl.1 rfl (by show _ + 9 ≤ _ + 8; omega) (by show 64 * (_ + 1) + 128 ≤ 64 * _ + 128; omega) (Nat.le_of_ble_eq_true rfl) (Nat.le_of_ble_eq_true rfl) (Nat.le_of_ble_eq_true rfl) dX11_init_86 (fun pre' h' => c_X1 (D := D + 1) _ pre' h') (fun H1 locs1 hS => ?_)
  refine r_put [.ref (n + 1), .ref (n + 3), .ref (n + 10), .ref (n + 17), .ref (n + 31), .ref (n + 45), .ref (n + 59), .ref (n + 229), .null, .null, .null, .int 0, .int 0] (v := .ref (n + 229)) hF hS hn rfl yp_X11_49 (Nat.le_of_ble_eq_true rfl) rfl (by first | rfl | decide) (by first | rfl | decide) dX11_init_89 (fun H1 locs1 hS => ?_)
  refine lv_aload_n hx hb dX11_init_92 rfl (lv_at hl 0 rfl) ?_
  refine r_new (q := n + 241) (ci := 9) hF hS (by simp only [List.length_append, List.length_cons, List.length_nil, List.append_eq, yl_X9, yl_X6, yl_X8, yl_X7, yl_X3, yl_X5, yl_X1, yl_X10, yl_X0, yl_X2]; omega) rfl zu_X10 tyX10 tyX10_ok zw_323 zw_324 zw_9 [.null, .null, .null, .null] (fun j hj => (by decide : ∀ j, j < 4 → defaultValue (tyX10 j) = vp_V [.null, .null, .null, .null] j) j hj) (Nat.le_of_ble_eq_true rfl) (Nat.le_of_ble_eq_true rfl) dX11_init_93 (fun H1 hS => ?_)
  refine lv_dup hx hb dX11_init_96 rfl ?_
  refine r_call (q := n + 241) (D := D + 2) (bl := yb_X10 (n + 241)) hF hS (by simp only [List.length_append, List.length_cons, List.length_nil, List.append_eq, yl_X9, yl_X6, yl_X8, yl_X7, yl_X3, yl_X5, yl_X1, yl_X10, yl_X0, yl_X2]; omega) yi_X11_55 hl.1 rfl (by show _ + 9 ≤ _ + 8; omega) (by show 64 * (_ + 1) + 128 ≤ 64 * _ + 128; omega) (Nat.le_of_ble_eq_true rfl) (Nat.le_of_ble_eq_true rfl) (Nat.le_of_ble_eq_true rfl) dX11_init_97 (fun pre' h' => c_X10 (D := D + 2) _ pre' h') (fun H1 locs1 hS => ?_)
  refine r_put [.ref (n + 1), .ref (n + 3), .ref (n + 10), .ref (n + 17), .ref (n + 31), .ref (n + 45), .ref (n + 59), .ref (n + 229), .ref (n + 241), .null, .null, .int 0, .int 0] (v := .ref (n + 241)) hF hS hn rfl yp_X11_56 (Nat.le_of_ble_eq_true rfl) rfl (by first | rfl | decide) (by first | rfl | decide) dX11_init_100 (fun H1 locs1 hS => ?_)
  refine lv_aload_n hx hb dX11_init_103 rfl (lv_at hl 0 rfl) ?_
  refine r_new (q := n + 246) (ci := 0) hF hS (by simp only [List.length_append, List.length_cons, List.length_nil, List.append_eq, yl_X9, yl_X6, yl_X8, yl_X7, yl_X3, yl_X5, yl_X1, yl_X10, yl_X0, yl_X2]; omega) rfl zu_X0 tyX0 tyX0_ok zw_342 zw_343 zw_10 [.null, .null, .int 0, .int 0] (fun j hj => (by decide : ∀ j, j < 4 → defaultValue (tyX0 j) = vp_V [.null, .null, .int 0, .int 0] j) j hj) (Nat.le_of_ble_eq_true rfl) (Nat.le_of_ble_eq_true rfl) dX11_init_104 (fun H1 hS => ?_)
  refine lv_dup hx hb dX11_init_107 rfl ?_
  refine r_call (q := n + 246) (D := D + 2) (bl := yb_X0 (n + 246)) hF hS (by simp only [List.length_append, List.length_cons, List.length_nil, List.append_eq, yl_X9, yl_X6, yl_X8, yl_X7, yl_X3, yl_X5, yl_X1, yl_X10, yl_X0, yl_X2]; omega) yi_X11_62 hl.1 rfl (by show _ + 9 ≤ _ + 8; omega) (by show 64 * (_ + 1) + 128 ≤ 64 * _ + 128; omega) (Nat.le_of_ble_eq_true rfl) (Nat.le_of_ble_eq_true rfl) (Nat.le_of_ble_eq_true rfl) dX11_init_108 (fun pre' h' => c_X0 (D := D + 2) _ pre' h') (fun H1 locs1 hS => ?_)
  refine r_put [.ref (n + 1), .ref (n + 3), .ref (n + 10), .ref (n + 17), .ref (n + 31), .ref (n + 45), .ref (n + 59), .ref (n + 229), .ref (n + 241), .ref (n + 246), .null, .int 0, .int 0] (v := .ref (n + 246)) hF hS hn rfl yp_X11_63 (Nat.le_of_ble_eq_true rfl) rfl (by first | rfl | decide) (by first | rfl | decide) dX11_init_111 (fun H1 locs1 hS => ?_)
  refine lv_aload_n hx hb dX11_init_114 rfl (lv_at hl 0 rfl) ?_
  refine r_new (q := n + 249) (ci := 2) hF hS (by simp only [List.length_append, List.length_cons, List.length_nil, List.append_eq, yl_X9, yl_X6, yl_X8, yl_X7, yl_X3, yl_X5, yl_X1, yl_X10, yl_X0, yl_X2]; omega) rfl zu_X2 tyX2 tyX2_ok zw_363 zw_364 zw_11 [.null, .null, .int 0] (fun j hj => (by decide : ∀ j, j < 3 → defaultValue (tyX2 j) = vp_V [.null, .null, .int 0] j) j hj) (Nat.le_of_ble_eq_true rfl) (Nat.le_of_ble_eq_true rfl) dX11_init_115 (fun H1 hS => ?_)
  refine lv_dup hx hb dX11_init_118 rfl ?_
  refine r_call (q := n + 249) (D := D + 2) (bl := yb_X2 (n + 249)) hF hS (by simp only [List.length_append, List.length_cons, List.length_nil, List.append_eq, yl_X9, yl_X6, yl_X8, yl_X7, yl_X3, yl_X5, yl_X1, yl_X10, yl_X0, yl_X2]; omega) yi_X11_69 hl.1 rfl (by show _ + 9 ≤ _ + 8; omega) (by show 64 * (_ + 1) + 128 ≤ 64 * _ + 128; omega) (Nat.le_of_ble_eq_true rfl) (Nat.le_of_ble_eq_true rfl) (Nat.le_of_ble_eq_true rfl) dX11_init_119 (fun pre' h' => c_X2 (D := D + 2) _ pre' h') (fun H1 locs1 hS => ?_)
  refine r_put [.ref (n + 1), .ref (n + 3), .ref (n + 10), .ref (n + 17), .ref (n + 31), .ref (n + 45), .ref (n + 59), .ref (n + 229), .ref (n + 241), .ref (n + 246), .ref (n + 249), .int 0, .int 0] (v := .ref (n + 249)) hF hS hn rfl yp_X11_70 (Nat.le_of_ble_eq_true rfl) rfl (by first | rfl | decide) (by first | rfl | decide) dX11_init_122 (fun H1 locs1 hS => ?_)
  refine lv_aload_n hx hb dX11_init_125 rfl (lv_at hl 0 rfl) ?_
  refine lv_iconst (v := (-1 : Int32)) hx hb dX11_init_126 rfl ?_
  refine r_put [.ref (n + 1), .ref (n + 3), .ref (n + 10), .ref (n + 17), .ref (n + 31), .ref (n + 45), .ref (n + 59), .ref (n + 229), .ref (n + 241), .ref (n + 246), .ref (n + 249), .int (-1), .int 0] (v := .int (-1)) hF hS hn rfl yp_X11_74 (Nat.le_of_ble_eq_true rfl) rfl (by first | rfl | decide) (by first | rfl | decide) dX11_init_127 (fun H1 locs1 hS => ?_)
  refine lv_aload_n hx hb dX11_init_130 rfl (lv_at hl 0 rfl) ?_
  refine lv_iconst (v := (0 : Int32)) hx hb dX11_init_131 rfl ?_
  refine r_put [.ref (n + 1), .ref (n + 3), .ref (n + 10), .ref (n + 17), .ref (n + 31), .ref (n + 45), .ref (n + 59), .ref (n + 229), .ref (n + 241), .ref (n + 246), .ref (n + 249), .int (-1), .int 0] (v := .int 0) hF hS hn rfl yp_X11_78 (Nat.le_of_ble_eq_true rfl) rfl (by first | rfl | decide) (by first | rfl | decide) dX11_init_132 (fun H1 locs1 hS => ?_)
  exact y_ret (D := 0) hF hS rfl (Nat.le_of_ble_eq_true rfl) (Nat.le_of_ble_eq_true rfl) dX11_init_135
def yb_X12 (n : Nat) : List yEnt := .inl (11, [.int 0, .ref (n + 1), .ref (n + 2), .ref (n + 3), .ref (n + 4), .ref (n + 5), .int 0, .int 0, .ref (n + 6), .int 0, .int 0, .int 0, .int 0, .int 0, .int (-1), .ref (n + 7), .int 0, .ref (n + 8), .ref (n + 9), .ref (n + 10), .ref (n + 11), .ref (n + 12), .ref (n + 13), .ref (n + 14), .ref (n + 15), .ref (n + 16), .ref (n + 17)]) :: (((((((((((((((((([] : List yEnt) ++ [.inr (0, 2070, (upd (upd (fun _ => 0) (11 : Int32).toNatClampNeg 1) (7 : Int32).toNatClampNeg 3), (fun _ => none))]) ++ [.inr (0, 1221, (fun _ => 0), (fun _ => none))]) ++ [.inr (0, 1221, (fun _ => 0), (fun _ => none))]) ++ [.inr (0, 372, (fun _ => 0), (fun _ => none))]) ++ [.inr (0, 4464, (fun _ => 0), (fun _ => none))]) ++ [.inr (1, 400, (fun _ => 0), (fun _ => none))]) ++ [.inr (0, 5, (fun _ => 0), (fun _ => none))]) ++ [.inr (0, 400, (fun _ => 0), (fun _ => none))]) ++ [.inr (0, 5, (fun _ => 0), (fun _ => none))]) ++ [.inr (0, 5, (fun _ => 0), (fun _ => none))]) ++ [.inr (0, 2560, (fun _ => 0), (fun _ => none))]) ++ [.inr (2, 64, (fun _ => 0), (fun _ => none))]) ++ [.inr (2, 256, (fun _ => 0), (fun _ => none))]) ++ [.inr (0, 5, (fun _ => 0), (fun _ => none))]) ++ [.inr (0, 5, (fun _ => 0), (fun _ => none))]) ++ [.inr (0, 16, (fun _ => 0), (fun _ => none))]) ++ [.inr (3, 6, (fun _ => 0), (fun _ => none))])
theorem yl_X12 (n : Nat) : (yb_X12 n).length = 18 := by simp only [yb_X12, List.length_append, List.length_cons, List.length_nil, yl_X9, yl_X6, yl_X8, yl_X7, yl_X3, yl_X5, yl_X1, yl_X10, yl_X0, yl_X2, yl_X11]
set_option maxRecDepth 20000 in
set_option maxHeartbeats 8000000 in
theorem c_X12 {E : zEv} {D : Nat} (n : Nat) (pre : List yEnt) (hn : pre.length = n) : yC E jX12_init (D + 0) 17 13075 n (pre ++ [.inl (11, [.int 0, .null, .null, .null, .null, .null, .int 0, .int 0, .null, .int 0, .int 0, .int 0, .int 0, .int 0, .int 0, .null, .int 0, .null, .null, .null, .null, .null, .null, .null, .null, .null, .null])]) (pre ++ yb_X12 n) := by
  refine y_meth (by decide) (by decide) ?_
  intro p e s m args below meth c Ls hF hS hl
  have hx := hF.1
  have hb := hF.2.1
  have hts := hF.2.2.2.2.2.2.2.1
  refine lv_aload_n hx hb dX12_init_0 rfl (lv_at hl 0 rfl) ?_
  refine W.objInit hx hb hF.2.2.2.2.1 (hts _ zw_1464) (hts _ zw_36) (hts _ zw_37) rfl (by rw [hF.2.2.2.1]; exact hl.1) rfl dX12_init_1 (by show 1 ≤ _ + 8; omega) (by show 2 * 0 + 0 + 12 ≤ 64 * _ + 128; omega) ?_
  refine W.eq (g2 := F0 m 4 Ls []) rfl ?_
  refine lv_aload_n hx hb dX12_init_4 rfl (lv_at hl 0 rfl) ?_
  refine lv_sipush (v := (2070 : Int32)) hx hb dX12_init_5 rfl ?_
  refine r_newI (q := n + 1) (N := 2070) hF hS (by simp only [List.length_append, List.length_cons, List.length_nil, List.append_eq, yl_X9, yl_X6, yl_X8, yl_X7, yl_X3, yl_X5, yl_X1, yl_X10, yl_X0, yl_X2, yl_X11]; omega) zw_62 (by decide) rfl (by decide) (Nat.le_of_ble_eq_true rfl) (Nat.le_of_ble_eq_true rfl) dX12_init_8 (fun H1 hS => ?_)
  refine r_put [.int 0, .ref (n + 1), .null, .null, .null, .null, .int 0, .int 0, .null, .int 0, .int 0, .int 0, .int 0, .int 0, .int 0, .null, .int 0, .null, .null, .null, .null, .null, .null, .null, .null, .null, .null] (v := .ref (n + 1)) hF hS hn rfl yp_X12_13 (Nat.le_of_ble_eq_true rfl) rfl (by first | rfl | decide) (by first | rfl | decide) dX12_init_10 (fun H1 locs1 hS => ?_)
  refine lv_aload_n hx hb dX12_init_13 rfl (lv_at hl 0 rfl) ?_
  refine lv_sipush (v := (1221 : Int32)) hx hb dX12_init_14 rfl ?_
  refine r_newI (q := n + 2) (N := 1221) hF hS (by simp only [List.length_append, List.length_cons, List.length_nil, List.append_eq, yl_X9, yl_X6, yl_X8, yl_X7, yl_X3, yl_X5, yl_X1, yl_X10, yl_X0, yl_X2, yl_X11]; omega) zw_62 (by decide) rfl (by decide) (Nat.le_of_ble_eq_true rfl) (Nat.le_of_ble_eq_true rfl) dX12_init_17 (fun H1 hS => ?_)
  refine r_put [.int 0, .ref (n + 1), .ref (n + 2), .null, .null, .null, .int 0, .int 0, .null, .int 0, .int 0, .int 0, .int 0, .int 0, .int 0, .null, .int 0, .null, .null, .null, .null, .null, .null, .null, .null, .null, .null] (v := .ref (n + 2)) hF hS hn rfl yp_X12_17 (Nat.le_of_ble_eq_true rfl) rfl (by first | rfl | decide) (by first | rfl | decide) dX12_init_19 (fun H1 locs1 hS => ?_)
  refine lv_aload_n hx hb dX12_init_22 rfl (lv_at hl 0 rfl) ?_
  refine lv_sipush (v := (1221 : Int32)) hx hb dX12_init_23 rfl ?_
  refine r_newI (q := n + 3) (N := 1221) hF hS (by simp only [List.length_append, List.length_cons, List.length_nil, List.append_eq, yl_X9, yl_X6, yl_X8, yl_X7, yl_X3, yl_X5, yl_X1, yl_X10, yl_X0, yl_X2, yl_X11]; omega) zw_62 (by decide) rfl (by decide) (Nat.le_of_ble_eq_true rfl) (Nat.le_of_ble_eq_true rfl) dX12_init_26 (fun H1 hS => ?_)
  refine r_put [.int 0, .ref (n + 1), .ref (n + 2), .ref (n + 3), .null, .null, .int 0, .int 0, .null, .int 0, .int 0, .int 0, .int 0, .int 0, .int 0, .null, .int 0, .null, .null, .null, .null, .null, .null, .null, .null, .null, .null] (v := .ref (n + 3)) hF hS hn rfl yp_X12_20 (Nat.le_of_ble_eq_true rfl) rfl (by first | rfl | decide) (by first | rfl | decide) dX12_init_28 (fun H1 locs1 hS => ?_)
  refine lv_aload_n hx hb dX12_init_31 rfl (lv_at hl 0 rfl) ?_
  refine lv_sipush (v := (372 : Int32)) hx hb dX12_init_32 rfl ?_
  refine r_newI (q := n + 4) (N := 372) hF hS (by simp only [List.length_append, List.length_cons, List.length_nil, List.append_eq, yl_X9, yl_X6, yl_X8, yl_X7, yl_X3, yl_X5, yl_X1, yl_X10, yl_X0, yl_X2, yl_X11]; omega) zw_62 (by decide) rfl (by decide) (Nat.le_of_ble_eq_true rfl) (Nat.le_of_ble_eq_true rfl) dX12_init_35 (fun H1 hS => ?_)
  refine r_put [.int 0, .ref (n + 1), .ref (n + 2), .ref (n + 3), .ref (n + 4), .null, .int 0, .int 0, .null, .int 0, .int 0, .int 0, .int 0, .int 0, .int 0, .null, .int 0, .null, .null, .null, .null, .null, .null, .null, .null, .null, .null] (v := .ref (n + 4)) hF hS hn rfl yp_X12_23 (Nat.le_of_ble_eq_true rfl) rfl (by first | rfl | decide) (by first | rfl | decide) dX12_init_37 (fun H1 locs1 hS => ?_)
  refine lv_aload_n hx hb dX12_init_40 rfl (lv_at hl 0 rfl) ?_
  refine lv_sipush (v := (4464 : Int32)) hx hb dX12_init_41 rfl ?_
  refine r_newI (q := n + 5) (N := 4464) hF hS (by simp only [List.length_append, List.length_cons, List.length_nil, List.append_eq, yl_X9, yl_X6, yl_X8, yl_X7, yl_X3, yl_X5, yl_X1, yl_X10, yl_X0, yl_X2, yl_X11]; omega) zw_62 (by decide) rfl (by decide) (Nat.le_of_ble_eq_true rfl) (Nat.le_of_ble_eq_true rfl) dX12_init_44 (fun H1 hS => ?_)
  refine r_put [.int 0, .ref (n + 1), .ref (n + 2), .ref (n + 3), .ref (n + 4), .ref (n + 5), .int 0, .int 0, .null, .int 0, .int 0, .int 0, .int 0, .int 0, .int 0, .null, .int 0, .null, .null, .null, .null, .null, .null, .null, .null, .null, .null] (v := .ref (n + 5)) hF hS hn rfl yp_X12_26 (Nat.le_of_ble_eq_true rfl) rfl (by first | rfl | decide) (by first | rfl | decide) dX12_init_46 (fun H1 locs1 hS => ?_)
  refine lv_aload_n hx hb dX12_init_49 rfl (lv_at hl 0 rfl) ?_
  refine lv_sipush (v := (400 : Int32)) hx hb dX12_init_50 rfl ?_
  refine r_newB (q := n + 6) (N := 400) hF hS (by simp only [List.length_append, List.length_cons, List.length_nil, List.append_eq, yl_X9, yl_X6, yl_X8, yl_X7, yl_X3, yl_X5, yl_X1, yl_X10, yl_X0, yl_X2, yl_X11]; omega) zw_830 (by decide) rfl (by decide) (Nat.le_of_ble_eq_true rfl) (Nat.le_of_ble_eq_true rfl) dX12_init_53 (fun H1 hS => ?_)
  refine r_put [.int 0, .ref (n + 1), .ref (n + 2), .ref (n + 3), .ref (n + 4), .ref (n + 5), .int 0, .int 0, .ref (n + 6), .int 0, .int 0, .int 0, .int 0, .int 0, .int 0, .null, .int 0, .null, .null, .null, .null, .null, .null, .null, .null, .null, .null] (v := .ref (n + 6)) hF hS hn rfl yp_X12_29 (Nat.le_of_ble_eq_true rfl) rfl (by first | rfl | decide) (by first | rfl | decide) dX12_init_55 (fun H1 locs1 hS => ?_)
  refine lv_aload_n hx hb dX12_init_58 rfl (lv_at hl 0 rfl) ?_
  refine lv_iconst (v := (-1 : Int32)) hx hb dX12_init_59 rfl ?_
  refine r_put [.int 0, .ref (n + 1), .ref (n + 2), .ref (n + 3), .ref (n + 4), .ref (n + 5), .int 0, .int 0, .ref (n + 6), .int 0, .int 0, .int 0, .int 0, .int 0, .int (-1), .null, .int 0, .null, .null, .null, .null, .null, .null, .null, .null, .null, .null] (v := .int (-1)) hF hS hn rfl yp_X12_33 (Nat.le_of_ble_eq_true rfl) rfl (by first | rfl | decide) (by first | rfl | decide) dX12_init_60 (fun H1 locs1 hS => ?_)
  refine lv_aload_n hx hb dX12_init_63 rfl (lv_at hl 0 rfl) ?_
  refine lv_iconst (v := (5 : Int32)) hx hb dX12_init_64 rfl ?_
  refine r_newI (q := n + 7) (N := 5) hF hS (by simp only [List.length_append, List.length_cons, List.length_nil, List.append_eq, yl_X9, yl_X6, yl_X8, yl_X7, yl_X3, yl_X5, yl_X1, yl_X10, yl_X0, yl_X2, yl_X11]; omega) zw_62 (by decide) rfl (by decide) (Nat.le_of_ble_eq_true rfl) (Nat.le_of_ble_eq_true rfl) dX12_init_65 (fun H1 hS => ?_)
  refine r_put [.int 0, .ref (n + 1), .ref (n + 2), .ref (n + 3), .ref (n + 4), .ref (n + 5), .int 0, .int 0, .ref (n + 6), .int 0, .int 0, .int 0, .int 0, .int 0, .int (-1), .ref (n + 7), .int 0, .null, .null, .null, .null, .null, .null, .null, .null, .null, .null] (v := .ref (n + 7)) hF hS hn rfl yp_X12_36 (Nat.le_of_ble_eq_true rfl) rfl (by first | rfl | decide) (by first | rfl | decide) dX12_init_67 (fun H1 locs1 hS => ?_)
  refine lv_aload_n hx hb dX12_init_70 rfl (lv_at hl 0 rfl) ?_
  refine lv_sipush (v := (400 : Int32)) hx hb dX12_init_71 rfl ?_
  refine r_newI (q := n + 8) (N := 400) hF hS (by simp only [List.length_append, List.length_cons, List.length_nil, List.append_eq, yl_X9, yl_X6, yl_X8, yl_X7, yl_X3, yl_X5, yl_X1, yl_X10, yl_X0, yl_X2, yl_X11]; omega) zw_62 (by decide) rfl (by decide) (Nat.le_of_ble_eq_true rfl) (Nat.le_of_ble_eq_true rfl) dX12_init_74 (fun H1 hS => ?_)
  refine r_put [.int 0, .ref (n + 1), .ref (n + 2), .ref (n + 3), .ref (n + 4), .ref (n + 5), .int 0, .int 0, .ref (n + 6), .int 0, .int 0, .int 0, .int 0, .int 0, .int (-1), .ref (n + 7), .int 0, .ref (n + 8), .null, .null, .null, .null, .null, .null, .null, .null, .null] (v := .ref (n + 8)) hF hS hn rfl yp_X12_39 (Nat.le_of_ble_eq_true rfl) rfl (by first | rfl | decide) (by first | rfl | decide) dX12_init_76 (fun H1 locs1 hS => ?_)
  refine lv_aload_n hx hb dX12_init_79 rfl (lv_at hl 0 rfl) ?_
  refine lv_iconst (v := (5 : Int32)) hx hb dX12_init_80 rfl ?_
  refine r_newI (q := n + 9) (N := 5) hF hS (by simp only [List.length_append, List.length_cons, List.length_nil, List.append_eq, yl_X9, yl_X6, yl_X8, yl_X7, yl_X3, yl_X5, yl_X1, yl_X10, yl_X0, yl_X2, yl_X11]; omega) zw_62 (by decide) rfl (by decide) (Nat.le_of_ble_eq_true rfl) (Nat.le_of_ble_eq_true rfl) dX12_init_81 (fun H1 hS => ?_)
  refine r_put [.int 0, .ref (n + 1), .ref (n + 2), .ref (n + 3), .ref (n + 4), .ref (n + 5), .int 0, .int 0, .ref (n + 6), .int 0, .int 0, .int 0, .int 0, .int 0, .int (-1), .ref (n + 7), .int 0, .ref (n + 8), .ref (n + 9), .null, .null, .null, .null, .null, .null, .null, .null] (v := .ref (n + 9)) hF hS hn rfl yp_X12_42 (Nat.le_of_ble_eq_true rfl) rfl (by first | rfl | decide) (by first | rfl | decide) dX12_init_83 (fun H1 locs1 hS => ?_)
  refine lv_aload_n hx hb dX12_init_86 rfl (lv_at hl 0 rfl) ?_
  refine lv_iconst (v := (5 : Int32)) hx hb dX12_init_87 rfl ?_
  refine r_newI (q := n + 10) (N := 5) hF hS (by simp only [List.length_append, List.length_cons, List.length_nil, List.append_eq, yl_X9, yl_X6, yl_X8, yl_X7, yl_X3, yl_X5, yl_X1, yl_X10, yl_X0, yl_X2, yl_X11]; omega) zw_62 (by decide) rfl (by decide) (Nat.le_of_ble_eq_true rfl) (Nat.le_of_ble_eq_true rfl) dX12_init_88 (fun H1 hS => ?_)
  refine r_put [.int 0, .ref (n + 1), .ref (n + 2), .ref (n + 3), .ref (n + 4), .ref (n + 5), .int 0, .int 0, .ref (n + 6), .int 0, .int 0, .int 0, .int 0, .int 0, .int (-1), .ref (n + 7), .int 0, .ref (n + 8), .ref (n + 9), .ref (n + 10), .null, .null, .null, .null, .null, .null, .null] (v := .ref (n + 10)) hF hS hn rfl yp_X12_45 (Nat.le_of_ble_eq_true rfl) rfl (by first | rfl | decide) (by first | rfl | decide) dX12_init_90 (fun H1 locs1 hS => ?_)
  refine lv_aload_n hx hb dX12_init_93 rfl (lv_at hl 0 rfl) ?_
  refine lv_sipush (v := (2560 : Int32)) hx hb dX12_init_94 rfl ?_
  refine r_newI (q := n + 11) (N := 2560) hF hS (by simp only [List.length_append, List.length_cons, List.length_nil, List.append_eq, yl_X9, yl_X6, yl_X8, yl_X7, yl_X3, yl_X5, yl_X1, yl_X10, yl_X0, yl_X2, yl_X11]; omega) zw_62 (by decide) rfl (by decide) (Nat.le_of_ble_eq_true rfl) (Nat.le_of_ble_eq_true rfl) dX12_init_97 (fun H1 hS => ?_)
  refine r_put [.int 0, .ref (n + 1), .ref (n + 2), .ref (n + 3), .ref (n + 4), .ref (n + 5), .int 0, .int 0, .ref (n + 6), .int 0, .int 0, .int 0, .int 0, .int 0, .int (-1), .ref (n + 7), .int 0, .ref (n + 8), .ref (n + 9), .ref (n + 10), .ref (n + 11), .null, .null, .null, .null, .null, .null] (v := .ref (n + 11)) hF hS hn rfl yp_X12_48 (Nat.le_of_ble_eq_true rfl) rfl (by first | rfl | decide) (by first | rfl | decide) dX12_init_99 (fun H1 locs1 hS => ?_)
  refine lv_aload_n hx hb dX12_init_102 rfl (lv_at hl 0 rfl) ?_
  refine lv_bipush (v := (64 : Int32)) hx hb dX12_init_103 rfl ?_
  refine r_newZ (q := n + 12) (N := 64) hF hS (by simp only [List.length_append, List.length_cons, List.length_nil, List.append_eq, yl_X9, yl_X6, yl_X8, yl_X7, yl_X3, yl_X5, yl_X1, yl_X10, yl_X0, yl_X2, yl_X11]; omega) zw_1547 (by decide) rfl (by decide) (Nat.le_of_ble_eq_true rfl) (Nat.le_of_ble_eq_true rfl) dX12_init_105 (fun H1 hS => ?_)
  refine r_put [.int 0, .ref (n + 1), .ref (n + 2), .ref (n + 3), .ref (n + 4), .ref (n + 5), .int 0, .int 0, .ref (n + 6), .int 0, .int 0, .int 0, .int 0, .int 0, .int (-1), .ref (n + 7), .int 0, .ref (n + 8), .ref (n + 9), .ref (n + 10), .ref (n + 11), .ref (n + 12), .null, .null, .null, .null, .null] (v := .ref (n + 12)) hF hS hn rfl yp_X12_51 (Nat.le_of_ble_eq_true rfl) rfl (by first | rfl | decide) (by first | rfl | decide) dX12_init_107 (fun H1 locs1 hS => ?_)
  refine lv_aload_n hx hb dX12_init_110 rfl (lv_at hl 0 rfl) ?_
  refine lv_sipush (v := (256 : Int32)) hx hb dX12_init_111 rfl ?_
  refine r_newZ (q := n + 13) (N := 256) hF hS (by simp only [List.length_append, List.length_cons, List.length_nil, List.append_eq, yl_X9, yl_X6, yl_X8, yl_X7, yl_X3, yl_X5, yl_X1, yl_X10, yl_X0, yl_X2, yl_X11]; omega) zw_1547 (by decide) rfl (by decide) (Nat.le_of_ble_eq_true rfl) (Nat.le_of_ble_eq_true rfl) dX12_init_114 (fun H1 hS => ?_)
  refine r_put [.int 0, .ref (n + 1), .ref (n + 2), .ref (n + 3), .ref (n + 4), .ref (n + 5), .int 0, .int 0, .ref (n + 6), .int 0, .int 0, .int 0, .int 0, .int 0, .int (-1), .ref (n + 7), .int 0, .ref (n + 8), .ref (n + 9), .ref (n + 10), .ref (n + 11), .ref (n + 12), .ref (n + 13), .null, .null, .null, .null] (v := .ref (n + 13)) hF hS hn rfl yp_X12_55 (Nat.le_of_ble_eq_true rfl) rfl (by first | rfl | decide) (by first | rfl | decide) dX12_init_116 (fun H1 locs1 hS => ?_)
  refine lv_aload_n hx hb dX12_init_119 rfl (lv_at hl 0 rfl) ?_
  refine lv_iconst (v := (5 : Int32)) hx hb dX12_init_120 rfl ?_
  refine r_newI (q := n + 14) (N := 5) hF hS (by simp only [List.length_append, List.length_cons, List.length_nil, List.append_eq, yl_X9, yl_X6, yl_X8, yl_X7, yl_X3, yl_X5, yl_X1, yl_X10, yl_X0, yl_X2, yl_X11]; omega) zw_62 (by decide) rfl (by decide) (Nat.le_of_ble_eq_true rfl) (Nat.le_of_ble_eq_true rfl) dX12_init_121 (fun H1 hS => ?_)
  refine r_put [.int 0, .ref (n + 1), .ref (n + 2), .ref (n + 3), .ref (n + 4), .ref (n + 5), .int 0, .int 0, .ref (n + 6), .int 0, .int 0, .int 0, .int 0, .int 0, .int (-1), .ref (n + 7), .int 0, .ref (n + 8), .ref (n + 9), .ref (n + 10), .ref (n + 11), .ref (n + 12), .ref (n + 13), .ref (n + 14), .null, .null, .null] (v := .ref (n + 14)) hF hS hn rfl yp_X12_58 (Nat.le_of_ble_eq_true rfl) rfl (by first | rfl | decide) (by first | rfl | decide) dX12_init_123 (fun H1 locs1 hS => ?_)
  refine lv_aload_n hx hb dX12_init_126 rfl (lv_at hl 0 rfl) ?_
  refine lv_iconst (v := (5 : Int32)) hx hb dX12_init_127 rfl ?_
  refine r_newI (q := n + 15) (N := 5) hF hS (by simp only [List.length_append, List.length_cons, List.length_nil, List.append_eq, yl_X9, yl_X6, yl_X8, yl_X7, yl_X3, yl_X5, yl_X1, yl_X10, yl_X0, yl_X2, yl_X11]; omega) zw_62 (by decide) rfl (by decide) (Nat.le_of_ble_eq_true rfl) (Nat.le_of_ble_eq_true rfl) dX12_init_128 (fun H1 hS => ?_)
  refine r_put [.int 0, .ref (n + 1), .ref (n + 2), .ref (n + 3), .ref (n + 4), .ref (n + 5), .int 0, .int 0, .ref (n + 6), .int 0, .int 0, .int 0, .int 0, .int 0, .int (-1), .ref (n + 7), .int 0, .ref (n + 8), .ref (n + 9), .ref (n + 10), .ref (n + 11), .ref (n + 12), .ref (n + 13), .ref (n + 14), .ref (n + 15), .null, .null] (v := .ref (n + 15)) hF hS hn rfl yp_X12_61 (Nat.le_of_ble_eq_true rfl) rfl (by first | rfl | decide) (by first | rfl | decide) dX12_init_130 (fun H1 locs1 hS => ?_)
  refine lv_aload_n hx hb dX12_init_133 rfl (lv_at hl 0 rfl) ?_
  refine lv_bipush (v := (16 : Int32)) hx hb dX12_init_134 rfl ?_
  refine r_newI (q := n + 16) (N := 16) hF hS (by simp only [List.length_append, List.length_cons, List.length_nil, List.append_eq, yl_X9, yl_X6, yl_X8, yl_X7, yl_X3, yl_X5, yl_X1, yl_X10, yl_X0, yl_X2, yl_X11]; omega) zw_62 (by decide) rfl (by decide) (Nat.le_of_ble_eq_true rfl) (Nat.le_of_ble_eq_true rfl) dX12_init_136 (fun H1 hS => ?_)
  refine r_put [.int 0, .ref (n + 1), .ref (n + 2), .ref (n + 3), .ref (n + 4), .ref (n + 5), .int 0, .int 0, .ref (n + 6), .int 0, .int 0, .int 0, .int 0, .int 0, .int (-1), .ref (n + 7), .int 0, .ref (n + 8), .ref (n + 9), .ref (n + 10), .ref (n + 11), .ref (n + 12), .ref (n + 13), .ref (n + 14), .ref (n + 15), .ref (n + 16), .null] (v := .ref (n + 16)) hF hS hn rfl yp_X12_64 (Nat.le_of_ble_eq_true rfl) rfl (by first | rfl | decide) (by first | rfl | decide) dX12_init_138 (fun H1 locs1 hS => ?_)
  refine lv_aload_n hx hb dX12_init_141 rfl (lv_at hl 0 rfl) ?_
  refine lv_bipush (v := (6 : Int32)) hx hb dX12_init_142 rfl ?_
  refine r_newJ (q := n + 17) (N := 6) hF hS (by simp only [List.length_append, List.length_cons, List.length_nil, List.append_eq, yl_X9, yl_X6, yl_X8, yl_X7, yl_X3, yl_X5, yl_X1, yl_X10, yl_X0, yl_X2, yl_X11]; omega) zw_178 (by decide) rfl (by decide) (Nat.le_of_ble_eq_true rfl) (Nat.le_of_ble_eq_true rfl) dX12_init_144 (fun H1 hS => ?_)
  refine r_put [.int 0, .ref (n + 1), .ref (n + 2), .ref (n + 3), .ref (n + 4), .ref (n + 5), .int 0, .int 0, .ref (n + 6), .int 0, .int 0, .int 0, .int 0, .int 0, .int (-1), .ref (n + 7), .int 0, .ref (n + 8), .ref (n + 9), .ref (n + 10), .ref (n + 11), .ref (n + 12), .ref (n + 13), .ref (n + 14), .ref (n + 15), .ref (n + 16), .ref (n + 17)] (v := .ref (n + 17)) hF hS hn rfl yp_X12_67 (Nat.le_of_ble_eq_true rfl) rfl (by first | rfl | decide) (by first | rfl | decide) dX12_init_146 (fun H1 locs1 hS => ?_)
  refine lv_aload_n hx hb dX12_init_149 rfl (lv_at hl 0 rfl) ?_
  refine r_get (v := .ref (n + 1)) hF hS hn zg_X12_13 rfl dX12_init_150 ?_
  refine lv_bipush (v := (11 : Int32)) hx hb dX12_init_153 rfl ?_
  refine lv_iconst (v := (1 : Int32)) hx hb dX12_init_155 rfl ?_
  refine r_iast (n := n + 1) hF hS (by rw [hn]) (by unfold vp_in; decide) dX12_init_156 (fun H1 locs1 hS => ?_)
  refine lv_aload_n hx hb dX12_init_157 rfl (lv_at hl 0 rfl) ?_
  refine r_get (v := .ref (n + 1)) hF hS hn zg_X12_13 rfl dX12_init_158 ?_
  refine lv_bipush (v := (7 : Int32)) hx hb dX12_init_161 rfl ?_
  refine lv_iconst (v := (3 : Int32)) hx hb dX12_init_163 rfl ?_
  refine r_iast (n := n + 1) hF hS (by rw [hn]) (by unfold vp_in; decide) dX12_init_164 (fun H1 locs1 hS => ?_)
  exact y_ret (D := 0) hF hS rfl (Nat.le_of_ble_eq_true rfl) (Nat.le_of_ble_eq_true rfl) dX12_init_165
