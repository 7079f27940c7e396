theorem zw_2147 : (Cond.constant "java/lang/Integer" 264 (65536 : Int32)) ∈ zT := zq_9 227 rfl rfl
theorem zw_556 : (Cond.constant "java/lang/Integer" 265 (1431655765 : Int32)) ∈ zT := zq_3 76 rfl rfl
theorem zw_557 : (Cond.constant "java/lang/Integer" 266 (858993459 : Int32)) ∈ zT := zq_3 77 rfl rfl
theorem zw_558 : (Cond.constant "java/lang/Integer" 267 (252645135 : Int32)) ∈ zT := zq_3 78 rfl rfl
theorem zw_1225 : (Cond.constantLong "java/lang/Long" 314 (6148914691236517205 : Int64)) ∈ zT := zq_6 25 rfl rfl
theorem zw_1226 : (Cond.constantLong "java/lang/Long" 316 (3689348814741910323 : Int64)) ∈ zT := zq_6 26 rfl rfl
theorem zw_1227 : (Cond.constantLong "java/lang/Long" 318 (1085102592571150095 : Int64)) ∈ zT := zq_6 27 rfl rfl
theorem zw_108 : (Cond.fieldLink "BlushCourt$Row" 9 "BlushCourt$Row" "skin" "[I") ∈ zT := zq_1 108 rfl rfl
theorem zw_146 : (Cond.laysFinal "BlushCourt$Row" "BlushCourt$Row" "skin" "[I") ∈ zT := zq_1 146 rfl rfl
theorem zw_148 : (Cond.laysFinal "BlushCourt$Row" "BlushCourt$Row" "shame" "[I") ∈ zT := zq_1 148 rfl rfl
theorem zw_150 : (Cond.laysFinal "BlushCourt$Row" "BlushCourt$Row" "drink" "[I") ∈ zT := zq_1 150 rfl rfl
theorem zw_152 : (Cond.laysFinal "BlushCourt$Row" "BlushCourt$Row" "shade" "[I") ∈ zT := zq_1 152 rfl rfl
theorem zw_154 : (Cond.laysFinal "BlushCourt$Row" "BlushCourt$Row" "place" "[I") ∈ zT := zq_1 154 rfl rfl
theorem zw_156 : (Cond.laysFinal "BlushCourt$Row" "BlushCourt$Row" "standing" "[I") ∈ zT := zq_1 156 rfl rfl
theorem zw_158 : (Cond.lays "BlushCourt$Row" "BlushCourt$Row" "count" "I") ∈ zT := zq_1 158 rfl rfl
theorem zw_449 : (Cond.methodLink "BlushCourt$Row" 34 ⟨"java/lang/System", "arraycopy", "(Ljava/lang/Object;ILjava/lang/Object;II)V"⟩) ∈ zT := zq_2 209 rfl rfl
theorem zw_451 : (Cond.native ⟨"java/lang/System", "arraycopy", "(Ljava/lang/Object;ILjava/lang/Object;II)V"⟩) ∈ zT := zq_2 211 rfl rfl
theorem zw_450 : (Cond.static ⟨"java/lang/System", "arraycopy", "(Ljava/lang/Object;ILjava/lang/Object;II)V"⟩) ∈ zT := zq_2 210 rfl rfl
theorem zw_13 : (Cond.initialized "java/lang/System") ∈ zT := zq_1 13 rfl rfl
theorem zw_113 : (Cond.fieldLink "BlushCourt$Row" 15 "BlushCourt$Row" "shame" "[I") ∈ zT := zq_1 113 rfl rfl
theorem zw_118 : (Cond.fieldLink "BlushCourt$Row" 18 "BlushCourt$Row" "drink" "[I") ∈ zT := zq_1 118 rfl rfl
theorem zw_123 : (Cond.fieldLink "BlushCourt$Row" 21 "BlushCourt$Row" "shade" "[I") ∈ zT := zq_1 123 rfl rfl
theorem zw_129 : (Cond.fieldLink "BlushCourt$Row" 24 "BlushCourt$Row" "place" "[I") ∈ zT := zq_1 129 rfl rfl
theorem zw_134 : (Cond.fieldLink "BlushCourt$Row" 27 "BlushCourt$Row" "standing" "[I") ∈ zT := zq_1 134 rfl rfl
theorem zw_138 : (Cond.fieldLink "BlushCourt$Row" 30 "BlushCourt$Row" "count" "I") ∈ zT := zq_1 138 rfl rfl
theorem zw_1081 : (Cond.methodLink "BlushCourt$Row" 40 ⟨"java/lang/Math", "min", "(II)I"⟩) ∈ zT := zq_5 121 rfl rfl
theorem zw_527 : (Cond.static ⟨"java/lang/Math", "min", "(II)I"⟩) ∈ zT := zq_3 47 rfl rfl
theorem zw_25 : (Cond.initialized "java/lang/Math") ∈ zT := zq_1 25 rfl rfl
theorem zw_528 : (Cond.code ⟨"java/lang/Math", "min", "(II)I"⟩ prog_23_method_69_code 2 (some .int)) ∈ zT := zq_3 48 rfl rfl
theorem zw_167 : (Cond.fieldLink "BlushCourt$Log" 9 "BlushCourt$Log" "rows" "[J") ∈ zT := zq_1 167 rfl rfl
theorem zw_171 : (Cond.laysFinal "BlushCourt$Log" "BlushCourt$Log" "rows" "[J") ∈ zT := zq_1 171 rfl rfl
theorem zw_173 : (Cond.lays "BlushCourt$Log" "BlushCourt$Log" "count" "I") ∈ zT := zq_1 173 rfl rfl
theorem zw_175 : (Cond.lays "BlushCourt$Log" "BlushCourt$Log" "next" "I") ∈ zT := zq_1 175 rfl rfl
theorem zw_456 : (Cond.methodLink "BlushCourt$Log" 22 ⟨"java/lang/System", "arraycopy", "(Ljava/lang/Object;ILjava/lang/Object;II)V"⟩) ∈ zT := zq_2 216 rfl rfl
theorem zw_168 : (Cond.fieldLink "BlushCourt$Log" 15 "BlushCourt$Log" "count" "I") ∈ zT := zq_1 168 rfl rfl
theorem zw_170 : (Cond.fieldLink "BlushCourt$Log" 19 "BlushCourt$Log" "next" "I") ∈ zT := zq_1 170 rfl rfl
theorem zw_1086 : (Cond.methodLink "BlushCourt$Log" 28 ⟨"java/lang/Math", "min", "(II)I"⟩) ∈ zT := zq_5 126 rfl rfl
theorem zw_1445 : (Cond.constantLong "BlushCourt$Log" 34 (15 : Int64)) ∈ zT := zq_7 5 rfl rfl
theorem zw_1446 : (Cond.constantLong "BlushCourt$Log" 36 (65535 : Int64)) ∈ zT := zq_7 6 rfl rfl
theorem zw_45 : (Cond.fieldLink "BlushCourt$Tape" 15 "BlushCourt$Tape" "size" "I") ∈ zT := zq_1 45 rfl rfl
theorem zw_51 : (Cond.laysFinal "BlushCourt$Tape" "BlushCourt$Tape" "bytes" "[I") ∈ zT := zq_1 51 rfl rfl
theorem zw_53 : (Cond.lays "BlushCourt$Tape" "BlushCourt$Tape" "size" "I") ∈ zT := zq_1 53 rfl rfl
theorem zw_55 : (Cond.lays "BlushCourt$Tape" "BlushCourt$Tape" "kind" "I") ∈ zT := zq_1 55 rfl rfl
theorem zw_57 : (Cond.lays "BlushCourt$Tape" "BlushCourt$Tape" "begin" "I") ∈ zT := zq_1 57 rfl rfl
theorem zw_59 : (Cond.lays "BlushCourt$Tape" "BlushCourt$Tape" "behind" "I") ∈ zT := zq_1 59 rfl rfl
theorem zw_44 : (Cond.fieldLink "BlushCourt$Tape" 9 "BlushCourt$Tape" "bytes" "[I") ∈ zT := zq_1 44 rfl rfl
theorem zw_50 : (Cond.fieldLink "BlushCourt$Tape" 25 "BlushCourt$Tape" "behind" "I") ∈ zT := zq_1 50 rfl rfl
theorem zw_2 : (Cond.initialized "BlushCourt$Tape") ∈ zT := zq_1 2 rfl rfl
theorem zw_640 : (Cond.code ⟨"BlushCourt$Tape", "advance", "()V"⟩ prog_11_method_6_code 1 (none : Option Jvm.ClassFile.FieldType)) ∈ zT := zq_3 160 rfl rfl
theorem zw_637 : (Cond.methodLink "BlushCourt$Tape" 28 ⟨"BlushCourt$Tape", "advance", "()V"⟩) ∈ zT := zq_3 157 rfl rfl
theorem zw_638 : (Cond.instanceMethod ⟨"BlushCourt$Tape", "advance", "()V"⟩) ∈ zT := zq_3 158 rfl rfl
theorem zw_639 : (Cond.selects "BlushCourt$Tape" ⟨"BlushCourt$Tape", "advance", "()V"⟩ ⟨"BlushCourt$Tape", "advance", "()V"⟩) ∈ zT := zq_3 159 rfl rfl
theorem zw_48 : (Cond.fieldLink "BlushCourt$Tape" 22 "BlushCourt$Tape" "begin" "I") ∈ zT := zq_1 48 rfl rfl
theorem zw_47 : (Cond.fieldLink "BlushCourt$Tape" 19 "BlushCourt$Tape" "kind" "I") ∈ zT := zq_1 47 rfl rfl
theorem zw_15 : (Cond.initialized "java/lang/String") ∈ zT := zq_1 15 rfl rfl
theorem zw_656 : (Cond.code ⟨"java/lang/String", "length", "()I"⟩ prog_25_method_54_code 1 (some .int)) ∈ zT := zq_3 176 rfl rfl
theorem zw_653 : (Cond.methodLink "BlushCourt$Tape" 31 ⟨"java/lang/String", "length", "()I"⟩) ∈ zT := zq_3 173 rfl rfl
theorem zw_654 : (Cond.instanceMethod ⟨"java/lang/String", "length", "()I"⟩) ∈ zT := zq_3 174 rfl rfl
theorem zw_655 : (Cond.selects "java/lang/String" ⟨"java/lang/String", "length", "()I"⟩ ⟨"java/lang/String", "length", "()I"⟩) ∈ zT := zq_3 175 rfl rfl
theorem zw_666 : (Cond.code ⟨"java/lang/String", "charAt", "(I)C"⟩ prog_25_method_56_code 2 (some .char)) ∈ zT := zq_3 186 rfl rfl
theorem zw_663 : (Cond.methodLink "BlushCourt$Tape" 37 ⟨"java/lang/String", "charAt", "(I)C"⟩) ∈ zT := zq_3 183 rfl rfl
theorem zw_664 : (Cond.instanceMethod ⟨"java/lang/String", "charAt", "(I)C"⟩) ∈ zT := zq_3 184 rfl rfl
theorem zw_665 : (Cond.selects "java/lang/String" ⟨"java/lang/String", "charAt", "(I)C"⟩ ⟨"java/lang/String", "charAt", "(I)C"⟩) ∈ zT := zq_3 185 rfl rfl
theorem zw_757 : (Cond.code ⟨"BlushCourt$Tape", "isSign", "(C)Z"⟩ prog_11_method_8_code 2 (some .boolean)) ∈ zT := zq_4 37 rfl rfl
theorem zw_754 : (Cond.methodLink "BlushCourt$Tape" 41 ⟨"BlushCourt$Tape", "isSign", "(C)Z"⟩) ∈ zT := zq_4 34 rfl rfl
theorem zw_755 : (Cond.instanceMethod ⟨"BlushCourt$Tape", "isSign", "(C)Z"⟩) ∈ zT := zq_4 35 rfl rfl
theorem zw_756 : (Cond.selects "BlushCourt$Tape" ⟨"BlushCourt$Tape", "isSign", "(C)Z"⟩ ⟨"BlushCourt$Tape", "isSign", "(C)Z"⟩) ∈ zT := zq_4 36 rfl rfl
theorem zw_652 : (Cond.code ⟨"BlushCourt$Tape", "isWord", "(Ljava/lang/String;)Z"⟩ prog_11_method_9_code 3 (some .boolean)) ∈ zT := zq_3 172 rfl rfl
theorem zw_714 : (Cond.methodLink "BlushCourt$Tape" 45 ⟨"BlushCourt$Tape", "isWord", "(Ljava/lang/String;)Z"⟩) ∈ zT := zq_3 234 rfl rfl
theorem zw_650 : (Cond.instanceMethod ⟨"BlushCourt$Tape", "isWord", "(Ljava/lang/String;)Z"⟩) ∈ zT := zq_3 170 rfl rfl
theorem zw_651 : (Cond.selects "BlushCourt$Tape" ⟨"BlushCourt$Tape", "isWord", "(Ljava/lang/String;)Z"⟩ ⟨"BlushCourt$Tape", "isWord", "(Ljava/lang/String;)Z"⟩) ∈ zT := zq_3 171 rfl rfl
theorem zw_713 : (Cond.code ⟨"BlushCourt$Tape", "takeWord", "(Ljava/lang/String;)Z"⟩ prog_11_method_11_code 2 (some .boolean)) ∈ zT := zq_3 233 rfl rfl
theorem zw_710 : (Cond.methodLink "BlushCourt$Tape" 49 ⟨"BlushCourt$Tape", "takeWord", "(Ljava/lang/String;)Z"⟩) ∈ zT := zq_3 230 rfl rfl
theorem zw_711 : (Cond.instanceMethod ⟨"BlushCourt$Tape", "takeWord", "(Ljava/lang/String;)Z"⟩) ∈ zT := zq_3 231 rfl rfl
theorem zw_712 : (Cond.selects "BlushCourt$Tape" ⟨"BlushCourt$Tape", "takeWord", "(Ljava/lang/String;)Z"⟩ ⟨"BlushCourt$Tape", "takeWord", "(Ljava/lang/String;)Z"⟩) ∈ zT := zq_3 232 rfl rfl
theorem zw_718 : (Cond.code ⟨"BlushCourt$Tape", "takeNumber", "(II)I"⟩ prog_11_method_12_code 5 (some .int)) ∈ zT := zq_3 238 rfl rfl
theorem zw_715 : (Cond.methodLink "BlushCourt$Tape" 52 ⟨"BlushCourt$Tape", "takeNumber", "(II)I"⟩) ∈ zT := zq_3 235 rfl rfl
theorem zw_716 : (Cond.instanceMethod ⟨"BlushCourt$Tape", "takeNumber", "(II)I"⟩) ∈ zT := zq_3 236 rfl rfl
theorem zw_717 : (Cond.selects "BlushCourt$Tape" ⟨"BlushCourt$Tape", "takeNumber", "(II)I"⟩ ⟨"BlushCourt$Tape", "takeNumber", "(II)I"⟩) ∈ zT := zq_3 237 rfl rfl
theorem zw_179 : (Cond.fieldLink "BlushCourt$Court" 12 "BlushCourt$Court" "row" "LBlushCourt$Row;") ∈ zT := zq_1 179 rfl rfl
theorem zw_241 : (Cond.laysFinal "BlushCourt$Court" "BlushCourt$Court" "row" "LBlushCourt$Row;") ∈ zT := zq_2 1 rfl rfl
theorem zw_243 : (Cond.laysFinal "BlushCourt$Court" "BlushCourt$Court" "log" "LBlushCourt$Log;") ∈ zT := zq_2 3 rfl rfl
theorem zw_245 : (Cond.laysFinal "BlushCourt$Court" "BlushCourt$Court" "weight" "[I") ∈ zT := zq_2 5 rfl rfl
theorem zw_247 : (Cond.laysFinal "BlushCourt$Court" "BlushCourt$Court" "touches" "[I") ∈ zT := zq_2 7 rfl rfl
theorem zw_249 : (Cond.laysFinal "BlushCourt$Court" "BlushCourt$Court" "asks" "[I") ∈ zT := zq_2 9 rfl rfl
theorem zw_251 : (Cond.laysFinal "BlushCourt$Court" "BlushCourt$Court" "sharp" "[I") ∈ zT := zq_2 11 rfl rfl
theorem zw_253 : (Cond.lays "BlushCourt$Court" "BlushCourt$Court" "things" "I") ∈ zT := zq_2 13 rfl rfl
theorem zw_255 : (Cond.lays "BlushCourt$Court" "BlushCourt$Court" "questions" "I") ∈ zT := zq_2 15 rfl rfl
theorem zw_257 : (Cond.lays "BlushCourt$Court" "BlushCourt$Court" "women" "I") ∈ zT := zq_2 17 rfl rfl
theorem zw_259 : (Cond.lays "BlushCourt$Court" "BlushCourt$Court" "texts" "I") ∈ zT := zq_2 19 rfl rfl
theorem zw_261 : (Cond.lays "BlushCourt$Court" "BlushCourt$Court" "so" "I") ∈ zT := zq_2 21 rfl rfl
theorem zw_263 : (Cond.lays "BlushCourt$Court" "BlushCourt$Court" "heat" "I") ∈ zT := zq_2 23 rfl rfl
theorem zw_265 : (Cond.lays "BlushCourt$Court" "BlushCourt$Court" "lies" "I") ∈ zT := zq_2 25 rfl rfl
theorem zw_267 : (Cond.lays "BlushCourt$Court" "BlushCourt$Court" "talk" "I") ∈ zT := zq_2 27 rfl rfl
theorem zw_269 : (Cond.lays "BlushCourt$Court" "BlushCourt$Court" "moment" "I") ∈ zT := zq_2 29 rfl rfl
theorem zw_271 : (Cond.lays "BlushCourt$Court" "BlushCourt$Court" "seed" "I") ∈ zT := zq_2 31 rfl rfl
theorem zw_5 : (Cond.initialized "BlushCourt$Row") ∈ zT := zq_1 5 rfl rfl
theorem zw_448 : (Cond.code ⟨"BlushCourt$Row", "copy", "(LBlushCourt$Row;)V"⟩ prog_10_method_2_code 2 (none : Option Jvm.ClassFile.FieldType)) ∈ zT := zq_2 208 rfl rfl
theorem zw_445 : (Cond.methodLink "BlushCourt$Court" 69 ⟨"BlushCourt$Row", "copy", "(LBlushCourt$Row;)V"⟩) ∈ zT := zq_2 205 rfl rfl
theorem zw_446 : (Cond.instanceMethod ⟨"BlushCourt$Row", "copy", "(LBlushCourt$Row;)V"⟩) ∈ zT := zq_2 206 rfl rfl
theorem zw_447 : (Cond.selects "BlushCourt$Row" ⟨"BlushCourt$Row", "copy", "(LBlushCourt$Row;)V"⟩ ⟨"BlushCourt$Row", "copy", "(LBlushCourt$Row;)V"⟩) ∈ zT := zq_2 207 rfl rfl
theorem zw_186 : (Cond.fieldLink "BlushCourt$Court" 21 "BlushCourt$Court" "log" "LBlushCourt$Log;") ∈ zT := zq_1 186 rfl rfl
theorem zw_6 : (Cond.initialized "BlushCourt$Log") ∈ zT := zq_1 6 rfl rfl
theorem zw_455 : (Cond.code ⟨"BlushCourt$Log", "copy", "(LBlushCourt$Log;)V"⟩ prog_9_method_2_code 2 (none : Option Jvm.ClassFile.FieldType)) ∈ zT := zq_2 215 rfl rfl
theorem zw_452 : (Cond.methodLink "BlushCourt$Court" 73 ⟨"BlushCourt$Log", "copy", "(LBlushCourt$Log;)V"⟩) ∈ zT := zq_2 212 rfl rfl
theorem zw_453 : (Cond.instanceMethod ⟨"BlushCourt$Log", "copy", "(LBlushCourt$Log;)V"⟩) ∈ zT := zq_2 213 rfl rfl
theorem zw_454 : (Cond.selects "BlushCourt$Log" ⟨"BlushCourt$Log", "copy", "(LBlushCourt$Log;)V"⟩ ⟨"BlushCourt$Log", "copy", "(LBlushCourt$Log;)V"⟩) ∈ zT := zq_2 214 rfl rfl
theorem zw_189 : (Cond.fieldLink "BlushCourt$Court" 25 "BlushCourt$Court" "weight" "[I") ∈ zT := zq_1 189 rfl rfl
theorem zw_457 : (Cond.methodLink "BlushCourt$Court" 76 ⟨"java/lang/System", "arraycopy", "(Ljava/lang/Object;ILjava/lang/Object;II)V"⟩) ∈ zT := zq_2 217 rfl rfl
theorem zw_192 : (Cond.fieldLink "BlushCourt$Court" 29 "BlushCourt$Court" "touches" "[I") ∈ zT := zq_1 192 rfl rfl
theorem zw_195 : (Cond.fieldLink "BlushCourt$Court" 32 "BlushCourt$Court" "asks" "[I") ∈ zT := zq_1 195 rfl rfl
theorem zw_199 : (Cond.fieldLink "BlushCourt$Court" 35 "BlushCourt$Court" "sharp" "[I") ∈ zT := zq_1 199 rfl rfl
theorem zw_204 : (Cond.fieldLink "BlushCourt$Court" 38 "BlushCourt$Court" "things" "I") ∈ zT := zq_1 204 rfl rfl
theorem zw_207 : (Cond.fieldLink "BlushCourt$Court" 42 "BlushCourt$Court" "questions" "I") ∈ zT := zq_1 207 rfl rfl
theorem zw_212 : (Cond.fieldLink "BlushCourt$Court" 45 "BlushCourt$Court" "women" "I") ∈ zT := zq_1 212 rfl rfl
theorem zw_217 : (Cond.fieldLink "BlushCourt$Court" 48 "BlushCourt$Court" "texts" "I") ∈ zT := zq_1 217 rfl rfl
theorem zw_219 : (Cond.fieldLink "BlushCourt$Court" 51 "BlushCourt$Court" "so" "I") ∈ zT := zq_1 219 rfl rfl
theorem zw_223 : (Cond.fieldLink "BlushCourt$Court" 54 "BlushCourt$Court" "heat" "I") ∈ zT := zq_1 223 rfl rfl
theorem zw_228 : (Cond.fieldLink "BlushCourt$Court" 57 "BlushCourt$Court" "lies" "I") ∈ zT := zq_1 228 rfl rfl
theorem zw_232 : (Cond.fieldLink "BlushCourt$Court" 60 "BlushCourt$Court" "talk" "I") ∈ zT := zq_1 232 rfl rfl
theorem zw_235 : (Cond.fieldLink "BlushCourt$Court" 63 "BlushCourt$Court" "moment" "I") ∈ zT := zq_1 235 rfl rfl
theorem zw_239 : (Cond.fieldLink "BlushCourt$Court" 66 "BlushCourt$Court" "seed" "I") ∈ zT := zq_1 239 rfl rfl
theorem zw_1071 : (Cond.constant "BlushCourt$Court" 82 (1103515245 : Int32)) ∈ zT := zq_5 111 rfl rfl
theorem zw_283 : (Cond.fieldLink "BlushCourt$History" 11 "BlushCourt$History" "ahead" "[LBlushCourt$Court;") ∈ zT := zq_2 43 rfl rfl
theorem zw_287 : (Cond.laysFinal "BlushCourt$History" "BlushCourt$History" "ahead" "[LBlushCourt$Court;") ∈ zT := zq_2 47 rfl rfl
theorem zw_289 : (Cond.lays "BlushCourt$History" "BlushCourt$History" "count" "I") ∈ zT := zq_2 49 rfl rfl
theorem zw_291 : (Cond.lays "BlushCourt$History" "BlushCourt$History" "next" "I") ∈ zT := zq_2 51 rfl rfl
theorem zw_286 : (Cond.fieldLink "BlushCourt$History" 21 "BlushCourt$History" "next" "I") ∈ zT := zq_2 46 rfl rfl
theorem zw_4 : (Cond.initialized "BlushCourt$Court") ∈ zT := zq_1 4 rfl rfl
theorem zw_444 : (Cond.code ⟨"BlushCourt$Court", "copy", "(LBlushCourt$Court;)V"⟩ prog_5_method_2_code 2 (none : Option Jvm.ClassFile.FieldType)) ∈ zT := zq_2 204 rfl rfl
theorem zw_599 : (Cond.methodLink "BlushCourt$History" 25 ⟨"BlushCourt$Court", "copy", "(LBlushCourt$Court;)V"⟩) ∈ zT := zq_3 119 rfl rfl
theorem zw_442 : (Cond.instanceMethod ⟨"BlushCourt$Court", "copy", "(LBlushCourt$Court;)V"⟩) ∈ zT := zq_2 202 rfl rfl
theorem zw_443 : (Cond.selects "BlushCourt$Court" ⟨"BlushCourt$Court", "copy", "(LBlushCourt$Court;)V"⟩ ⟨"BlushCourt$Court", "copy", "(LBlushCourt$Court;)V"⟩) ∈ zT := zq_2 203 rfl rfl
theorem zw_284 : (Cond.fieldLink "BlushCourt$History" 17 "BlushCourt$History" "count" "I") ∈ zT := zq_2 44 rfl rfl
theorem zw_1061 : (Cond.methodLink "BlushCourt$History" 29 ⟨"java/lang/Math", "min", "(II)I"⟩) ∈ zT := zq_5 101 rfl rfl
theorem zw_69 : (Cond.fieldLink "BlushCourt$Law" 9 "BlushCourt$Law" "kind" "[I") ∈ zT := zq_1 69 rfl rfl
theorem zw_79 : (Cond.laysFinal "BlushCourt$Law" "BlushCourt$Law" "kind" "[I") ∈ zT := zq_1 79 rfl rfl
theorem zw_81 : (Cond.laysFinal "BlushCourt$Law" "BlushCourt$Law" "amount" "[I") ∈ zT := zq_1 81 rfl rfl
theorem zw_83 : (Cond.laysFinal "BlushCourt$Law" "BlushCourt$Law" "end" "[I") ∈ zT := zq_1 83 rfl rfl
theorem zw_85 : (Cond.laysFinal "BlushCourt$Law" "BlushCourt$Law" "code" "[I") ∈ zT := zq_1 85 rfl rfl
theorem zw_87 : (Cond.laysFinal "BlushCourt$Law" "BlushCourt$Law" "facts" "[I") ∈ zT := zq_1 87 rfl rfl
theorem zw_89 : (Cond.laysFinal "BlushCourt$Law" "BlushCourt$Law" "stack" "[I") ∈ zT := zq_1 89 rfl rfl
theorem zw_91 : (Cond.lays "BlushCourt$Law" "BlushCourt$Law" "lines" "I") ∈ zT := zq_1 91 rfl rfl
theorem zw_93 : (Cond.lays "BlushCourt$Law" "BlushCourt$Law" "length" "I") ∈ zT := zq_1 93 rfl rfl
theorem zw_608 : (Cond.methodLink "BlushCourt$Law" 37 ⟨"java/lang/System", "arraycopy", "(Ljava/lang/Object;ILjava/lang/Object;II)V"⟩) ∈ zT := zq_3 128 rfl rfl
theorem zw_70 : (Cond.fieldLink "BlushCourt$Law" 15 "BlushCourt$Law" "amount" "[I") ∈ zT := zq_1 70 rfl rfl
theorem zw_71 : (Cond.fieldLink "BlushCourt$Law" 18 "BlushCourt$Law" "end" "[I") ∈ zT := zq_1 71 rfl rfl
theorem zw_72 : (Cond.fieldLink "BlushCourt$Law" 21 "BlushCourt$Law" "code" "[I") ∈ zT := zq_1 72 rfl rfl
theorem zw_75 : (Cond.fieldLink "BlushCourt$Law" 30 "BlushCourt$Law" "lines" "I") ∈ zT := zq_1 75 rfl rfl
theorem zw_78 : (Cond.fieldLink "BlushCourt$Law" 34 "BlushCourt$Law" "length" "I") ∈ zT := zq_1 78 rfl rfl
theorem zw_636 : (Cond.code ⟨"BlushCourt$Tape", "open", "()V"⟩ prog_11_method_5_code 1 (none : Option Jvm.ClassFile.FieldType)) ∈ zT := zq_3 156 rfl rfl
theorem zw_858 : (Cond.methodLink "BlushCourt$Law" 43 ⟨"BlushCourt$Tape", "open", "()V"⟩) ∈ zT := zq_4 138 rfl rfl
theorem zw_634 : (Cond.instanceMethod ⟨"BlushCourt$Tape", "open", "()V"⟩) ∈ zT := zq_3 154 rfl rfl
theorem zw_635 : (Cond.selects "BlushCourt$Tape" ⟨"BlushCourt$Tape", "open", "()V"⟩ ⟨"BlushCourt$Tape", "open", "()V"⟩) ∈ zT := zq_3 155 rfl rfl
theorem zw_644 : (Cond.code ⟨"BlushCourt$Tape", "isEnd", "()Z"⟩ prog_11_method_7_code 1 (some .boolean)) ∈ zT := zq_3 164 rfl rfl
theorem zw_859 : (Cond.methodLink "BlushCourt$Law" 48 ⟨"BlushCourt$Tape", "isEnd", "()Z"⟩) ∈ zT := zq_4 139 rfl rfl
theorem zw_642 : (Cond.instanceMethod ⟨"BlushCourt$Tape", "isEnd", "()Z"⟩) ∈ zT := zq_3 162 rfl rfl
theorem zw_643 : (Cond.selects "BlushCourt$Tape" ⟨"BlushCourt$Tape", "isEnd", "()Z"⟩ ⟨"BlushCourt$Tape", "isEnd", "()Z"⟩) ∈ zT := zq_3 163 rfl rfl
theorem zw_3 : (Cond.initialized "BlushCourt$Law") ∈ zT := zq_1 3 rfl rfl
theorem zw_863 : (Cond.code ⟨"BlushCourt$Law", "readLine", "(LBlushCourt$Tape;)Z"⟩ prog_8_method_4_code 4 (some .boolean)) ∈ zT := zq_4 143 rfl rfl
theorem zw_860 : (Cond.methodLink "BlushCourt$Law" 52 ⟨"BlushCourt$Law", "readLine", "(LBlushCourt$Tape;)Z"⟩) ∈ zT := zq_4 140 rfl rfl
theorem zw_862 : (Cond.instanceMethod ⟨"BlushCourt$Law", "readLine", "(LBlushCourt$Tape;)Z"⟩) ∈ zT := zq_4 142 rfl rfl
theorem zws_1_8 : Cond.selects "BlushCourt$Law" ⟨"BlushCourt$Law", "readLine", "(LBlushCourt$Tape;)Z"⟩ ⟨"BlushCourt$Law", "readLine", "(LBlushCourt$Tape;)Z"⟩ ∈ zT := zq_s (q := (⟨"BlushCourt$Law", "readLine", "(LBlushCourt$Tape;)Z"⟩, 8)) (List.mem_append_left _ (List.mem_of_getElem? (i := 8) rfl))
theorem zw_753 : (Cond.code ⟨"BlushCourt$Tape", "takeSign", "(C)Z"⟩ prog_11_method_10_code 2 (some .boolean)) ∈ zT := zq_4 33 rfl rfl
theorem zw_897 : (Cond.methodLink "BlushCourt$Law" 56 ⟨"BlushCourt$Tape", "takeSign", "(C)Z"⟩) ∈ zT := zq_4 177 rfl rfl
theorem zw_751 : (Cond.instanceMethod ⟨"BlushCourt$Tape", "takeSign", "(C)Z"⟩) ∈ zT := zq_4 31 rfl rfl
theorem zw_752 : (Cond.selects "BlushCourt$Tape" ⟨"BlushCourt$Tape", "takeSign", "(C)Z"⟩ ⟨"BlushCourt$Tape", "takeSign", "(C)Z"⟩) ∈ zT := zq_4 32 rfl rfl
theorem zw_866 : (Cond.code ⟨"BlushCourt$Law", "kindHere", "(LBlushCourt$Tape;)I"⟩ prog_8_method_5_code 1 (some .int)) ∈ zT := zq_4 146 rfl rfl
theorem zw_864 : (Cond.methodLink "BlushCourt$Law" 60 ⟨"BlushCourt$Law", "kindHere", "(LBlushCourt$Tape;)I"⟩) ∈ zT := zq_4 144 rfl rfl
theorem zw_865 : (Cond.static ⟨"BlushCourt$Law", "kindHere", "(LBlushCourt$Tape;)I"⟩) ∈ zT := zq_4 145 rfl rfl
theorem zw_871 : (Cond.methodLink "BlushCourt$Law" 64 ⟨"BlushCourt$Tape", "advance", "()V"⟩) ∈ zT := zq_4 151 rfl rfl
theorem zw_872 : (Cond.methodLink "BlushCourt$Law" 67 ⟨"BlushCourt$Tape", "takeNumber", "(II)I"⟩) ∈ zT := zq_4 152 rfl rfl
theorem zw_876 : (Cond.code ⟨"BlushCourt$Law", "begin", "(II)V"⟩ prog_8_method_12_code 3 (none : Option Jvm.ClassFile.FieldType)) ∈ zT := zq_4 156 rfl rfl
theorem zw_873 : (Cond.methodLink "BlushCourt$Law" 71 ⟨"BlushCourt$Law", "begin", "(II)V"⟩) ∈ zT := zq_4 153 rfl rfl
theorem zw_875 : (Cond.instanceMethod ⟨"BlushCourt$Law", "begin", "(II)V"⟩) ∈ zT := zq_4 155 rfl rfl
theorem zws_1_9 : Cond.selects "BlushCourt$Law" ⟨"BlushCourt$Law", "begin", "(II)V"⟩ ⟨"BlushCourt$Law", "begin", "(II)V"⟩ ∈ zT := zq_s (q := (⟨"BlushCourt$Law", "begin", "(II)V"⟩, 8)) (List.mem_append_left _ (List.mem_of_getElem? (i := 9) rfl))
theorem zw_878 : (Cond.methodLink "BlushCourt$Law" 77 ⟨"BlushCourt$Tape", "takeWord", "(Ljava/lang/String;)Z"⟩) ∈ zT := zq_4 158 rfl rfl
theorem zw_882 : (Cond.code ⟨"BlushCourt$Law", "readAny", "(LBlushCourt$Tape;I)Z"⟩ prog_8_method_6_code 4 (some .boolean)) ∈ zT := zq_4 162 rfl rfl
theorem zw_879 : (Cond.methodLink "BlushCourt$Law" 81 ⟨"BlushCourt$Law", "readAny", "(LBlushCourt$Tape;I)Z"⟩) ∈ zT := zq_4 159 rfl rfl
theorem zw_881 : (Cond.instanceMethod ⟨"BlushCourt$Law", "readAny", "(LBlushCourt$Tape;I)Z"⟩) ∈ zT := zq_4 161 rfl rfl
theorem zws_1_10 : Cond.selects "BlushCourt$Law" ⟨"BlushCourt$Law", "readAny", "(LBlushCourt$Tape;I)Z"⟩ ⟨"BlushCourt$Law", "readAny", "(LBlushCourt$Tape;I)Z"⟩ ∈ zT := zq_s (q := (⟨"BlushCourt$Law", "readAny", "(LBlushCourt$Tape;I)Z"⟩, 8)) (List.mem_append_left _ (List.mem_of_getElem? (i := 10) rfl))
theorem zw_868 : (Cond.methodLink "BlushCourt$Law" 87 ⟨"BlushCourt$Tape", "isWord", "(Ljava/lang/String;)Z"⟩) ∈ zT := zq_4 148 rfl rfl
theorem zw_886 : (Cond.code ⟨"BlushCourt$Law", "readAll", "(LBlushCourt$Tape;I)Z"⟩ prog_8_method_7_code 4 (some .boolean)) ∈ zT := zq_4 166 rfl rfl
theorem zw_883 : (Cond.methodLink "BlushCourt$Law" 94 ⟨"BlushCourt$Law", "readAll", "(LBlushCourt$Tape;I)Z"⟩) ∈ zT := zq_4 163 rfl rfl
theorem zw_885 : (Cond.instanceMethod ⟨"BlushCourt$Law", "readAll", "(LBlushCourt$Tape;I)Z"⟩) ∈ zT := zq_4 165 rfl rfl
theorem zws_1_11 : Cond.selects "BlushCourt$Law" ⟨"BlushCourt$Law", "readAll", "(LBlushCourt$Tape;I)Z"⟩ ⟨"BlushCourt$Law", "readAll", "(LBlushCourt$Tape;I)Z"⟩ ∈ zT := zq_s (q := (⟨"BlushCourt$Law", "readAll", "(LBlushCourt$Tape;I)Z"⟩, 8)) (List.mem_append_left _ (List.mem_of_getElem? (i := 11) rfl))
theorem zw_901 : (Cond.code ⟨"BlushCourt$Law", "addStep", "(I)V"⟩ prog_8_method_13_code 2 (none : Option Jvm.ClassFile.FieldType)) ∈ zT := zq_4 181 rfl rfl
theorem zw_898 : (Cond.methodLink "BlushCourt$Law" 99 ⟨"BlushCourt$Law", "addStep", "(I)V"⟩) ∈ zT := zq_4 178 rfl rfl
theorem zw_900 : (Cond.instanceMethod ⟨"BlushCourt$Law", "addStep", "(I)V"⟩) ∈ zT := zq_4 180 rfl rfl
theorem zws_1_14 : Cond.selects "BlushCourt$Law" ⟨"BlushCourt$Law", "addStep", "(I)V"⟩ ⟨"BlushCourt$Law", "addStep", "(I)V"⟩ ∈ zT := zq_s (q := (⟨"BlushCourt$Law", "addStep", "(I)V"⟩, 8)) (List.mem_append_left _ (List.mem_of_getElem? (i := 14) rfl))
theorem zw_890 : (Cond.code ⟨"BlushCourt$Law", "readAtom", "(LBlushCourt$Tape;I)Z"⟩ prog_8_method_8_code 5 (some .boolean)) ∈ zT := zq_4 170 rfl rfl
theorem zw_887 : (Cond.methodLink "BlushCourt$Law" 103 ⟨"BlushCourt$Law", "readAtom", "(LBlushCourt$Tape;I)Z"⟩) ∈ zT := zq_4 167 rfl rfl
theorem zw_889 : (Cond.instanceMethod ⟨"BlushCourt$Law", "readAtom", "(LBlushCourt$Tape;I)Z"⟩) ∈ zT := zq_4 169 rfl rfl
theorem zws_1_12 : Cond.selects "BlushCourt$Law" ⟨"BlushCourt$Law", "readAtom", "(LBlushCourt$Tape;I)Z"⟩ ⟨"BlushCourt$Law", "readAtom", "(LBlushCourt$Tape;I)Z"⟩ ∈ zT := zq_s (q := (⟨"BlushCourt$Law", "readAtom", "(LBlushCourt$Tape;I)Z"⟩, 8)) (List.mem_append_left _ (List.mem_of_getElem? (i := 12) rfl))
theorem zw_892 : (Cond.methodLink "BlushCourt$Law" 110 ⟨"BlushCourt$Tape", "isSign", "(C)Z"⟩) ∈ zT := zq_4 172 rfl rfl
theorem zw_896 : (Cond.code ⟨"BlushCourt$Law", "readDeeper", "(LBlushCourt$Tape;I)Z"⟩ prog_8_method_9_code 3 (some .boolean)) ∈ zT := zq_4 176 rfl rfl
theorem zw_893 : (Cond.methodLink "BlushCourt$Law" 113 ⟨"BlushCourt$Law", "readDeeper", "(LBlushCourt$Tape;I)Z"⟩) ∈ zT := zq_4 173 rfl rfl
theorem zw_895 : (Cond.instanceMethod ⟨"BlushCourt$Law", "readDeeper", "(LBlushCourt$Tape;I)Z"⟩) ∈ zT := zq_4 175 rfl rfl
theorem zws_1_13 : Cond.selects "BlushCourt$Law" ⟨"BlushCourt$Law", "readDeeper", "(LBlushCourt$Tape;I)Z"⟩ ⟨"BlushCourt$Law", "readDeeper", "(LBlushCourt$Tape;I)Z"⟩ ∈ zT := zq_s (q := (⟨"BlushCourt$Law", "readDeeper", "(LBlushCourt$Tape;I)Z"⟩, 8)) (List.mem_append_left _ (List.mem_of_getElem? (i := 13) rfl))
theorem zw_908 : (Cond.code ⟨"BlushCourt$Law", "readSum", "(LBlushCourt$Tape;)Z"⟩ prog_8_method_10_code 5 (some .boolean)) ∈ zT := zq_4 188 rfl rfl
theorem zw_905 : (Cond.methodLink "BlushCourt$Law" 122 ⟨"BlushCourt$Law", "readSum", "(LBlushCourt$Tape;)Z"⟩) ∈ zT := zq_4 185 rfl rfl
theorem zw_907 : (Cond.instanceMethod ⟨"BlushCourt$Law", "readSum", "(LBlushCourt$Tape;)Z"⟩) ∈ zT := zq_4 187 rfl rfl
theorem zws_1_15 : Cond.selects "BlushCourt$Law" ⟨"BlushCourt$Law", "readSum", "(LBlushCourt$Tape;)Z"⟩ ⟨"BlushCourt$Law", "readSum", "(LBlushCourt$Tape;)Z"⟩ ∈ zT := zq_s (q := (⟨"BlushCourt$Law", "readSum", "(LBlushCourt$Tape;)Z"⟩, 8)) (List.mem_append_left _ (List.mem_of_getElem? (i := 15) rfl))
theorem zw_911 : (Cond.code ⟨"BlushCourt$Law", "factHere", "(LBlushCourt$Tape;)I"⟩ prog_8_method_11_code 1 (some .int)) ∈ zT := zq_4 191 rfl rfl
theorem zw_909 : (Cond.methodLink "BlushCourt$Law" 125 ⟨"BlushCourt$Law", "factHere", "(LBlushCourt$Tape;)I"⟩) ∈ zT := zq_4 189 rfl rfl
theorem zw_910 : (Cond.static ⟨"BlushCourt$Law", "factHere", "(LBlushCourt$Tape;)I"⟩) ∈ zT := zq_4 190 rfl rfl
theorem zw_477 : (Cond.code ⟨"BlushCourt$Law", "note", "(LBlushCourt$Court;II)V"⟩ prog_8_method_15_code 6 (none : Option Jvm.ClassFile.FieldType)) ∈ zT := zq_2 237 rfl rfl
theorem zw_474 : (Cond.methodLink "BlushCourt$Law" 144 ⟨"BlushCourt$Law", "note", "(LBlushCourt$Court;II)V"⟩) ∈ zT := zq_2 234 rfl rfl
theorem zw_476 : (Cond.instanceMethod ⟨"BlushCourt$Law", "note", "(LBlushCourt$Court;II)V"⟩) ∈ zT := zq_2 236 rfl rfl
theorem zws_1_0 : Cond.selects "BlushCourt$Law" ⟨"BlushCourt$Law", "note", "(LBlushCourt$Court;II)V"⟩ ⟨"BlushCourt$Law", "note", "(LBlushCourt$Court;II)V"⟩ ∈ zT := zq_s (q := (⟨"BlushCourt$Law", "note", "(LBlushCourt$Court;II)V"⟩, 8)) (List.mem_append_left _ (List.mem_of_getElem? (i := 0) rfl))
theorem zw_481 : (Cond.code ⟨"BlushCourt$Law", "holds", "(I)Z"⟩ prog_8_method_16_code 8 (some .boolean)) ∈ zT := zq_3 1 rfl rfl
theorem zw_478 : (Cond.methodLink "BlushCourt$Law" 148 ⟨"BlushCourt$Law", "holds", "(I)Z"⟩) ∈ zT := zq_2 238 rfl rfl
theorem zw_480 : (Cond.instanceMethod ⟨"BlushCourt$Law", "holds", "(I)Z"⟩) ∈ zT := zq_3 0 rfl rfl
theorem zws_1_1 : Cond.selects "BlushCourt$Law" ⟨"BlushCourt$Law", "holds", "(I)Z"⟩ ⟨"BlushCourt$Law", "holds", "(I)Z"⟩ ∈ zT := zq_s (q := (⟨"BlushCourt$Law", "holds", "(I)Z"⟩, 8)) (List.mem_append_left _ (List.mem_of_getElem? (i := 1) rfl))
theorem zw_185 : (Cond.fieldLinkNest "BlushCourt$Law" 152 "BlushCourt$Court" "row" "LBlushCourt$Row;" "BlushCourt") ∈ zT := zq_1 185 rfl rfl
theorem zw_133 : (Cond.fieldLinkNest "BlushCourt$Law" 158 "BlushCourt$Row" "place" "[I" "BlushCourt") ∈ zT := zq_1 133 rfl rfl
theorem zw_73 : (Cond.fieldLink "BlushCourt$Law" 24 "BlushCourt$Law" "facts" "[I") ∈ zT := zq_1 73 rfl rfl
theorem zw_112 : (Cond.fieldLinkNest "BlushCourt$Law" 162 "BlushCourt$Row" "skin" "[I" "BlushCourt") ∈ zT := zq_1 112 rfl rfl
theorem zw_117 : (Cond.fieldLinkNest "BlushCourt$Law" 164 "BlushCourt$Row" "shame" "[I" "BlushCourt") ∈ zT := zq_1 117 rfl rfl
theorem zw_122 : (Cond.fieldLinkNest "BlushCourt$Law" 166 "BlushCourt$Row" "drink" "[I" "BlushCourt") ∈ zT := zq_1 122 rfl rfl
theorem zw_128 : (Cond.fieldLinkNest "BlushCourt$Law" 168 "BlushCourt$Row" "shade" "[I" "BlushCourt") ∈ zT := zq_1 128 rfl rfl
theorem zw_226 : (Cond.fieldLinkNest "BlushCourt$Law" 170 "BlushCourt$Court" "heat" "I" "BlushCourt") ∈ zT := zq_1 226 rfl rfl
theorem zw_144 : (Cond.fieldLinkNest "BlushCourt$Law" 172 "BlushCourt$Row" "count" "I" "BlushCourt") ∈ zT := zq_1 144 rfl rfl
theorem zw_74 : (Cond.fieldLink "BlushCourt$Law" 27 "BlushCourt$Law" "stack" "[I") ∈ zT := zq_1 74 rfl rfl
theorem zw_224 : (Cond.fieldLinkNest "BlushCourt$Blush" 31 "BlushCourt$Court" "heat" "I" "BlushCourt") ∈ zT := zq_1 224 rfl rfl
theorem zw_302 : (Cond.fieldLink "BlushCourt$Blush" 12 "BlushCourt$Blush" "law" "LBlushCourt$Law;") ∈ zT := zq_2 62 rfl rfl
theorem zw_312 : (Cond.laysFinal "BlushCourt$Blush" "BlushCourt$Blush" "law" "LBlushCourt$Law;") ∈ zT := zq_2 72 rfl rfl
theorem zw_314 : (Cond.laysFinal "BlushCourt$Blush" "BlushCourt$Blush" "weight" "[I") ∈ zT := zq_2 74 rfl rfl
theorem zw_316 : (Cond.laysFinal "BlushCourt$Blush" "BlushCourt$Blush" "own" "[I") ∈ zT := zq_2 76 rfl rfl
theorem zw_318 : (Cond.laysFinal "BlushCourt$Blush" "BlushCourt$Blush" "passed" "[I") ∈ zT := zq_2 78 rfl rfl
theorem zw_320 : (Cond.laysFinal "BlushCourt$Blush" "BlushCourt$Blush" "risen" "[I") ∈ zT := zq_2 80 rfl rfl
theorem zw_473 : (Cond.code ⟨"BlushCourt$Law", "sum", "(ILBlushCourt$Court;II)I"⟩ prog_8_method_14_code 7 (some .int)) ∈ zT := zq_2 233 rfl rfl
theorem zw_470 : (Cond.methodLink "BlushCourt$Blush" 37 ⟨"BlushCourt$Law", "sum", "(ILBlushCourt$Court;II)I"⟩) ∈ zT := zq_2 230 rfl rfl
theorem zw_471 : (Cond.instanceMethod ⟨"BlushCourt$Law", "sum", "(ILBlushCourt$Court;II)I"⟩) ∈ zT := zq_2 231 rfl rfl
theorem zw_472 : (Cond.selects "BlushCourt$Law" ⟨"BlushCourt$Law", "sum", "(ILBlushCourt$Court;II)I"⟩ ⟨"BlushCourt$Law", "sum", "(ILBlushCourt$Court;II)I"⟩) ∈ zT := zq_2 232 rfl rfl
theorem zw_181 : (Cond.fieldLinkNest "BlushCourt$Blush" 41 "BlushCourt$Court" "row" "LBlushCourt$Row;" "BlushCourt") ∈ zT := zq_1 181 rfl rfl
theorem zw_140 : (Cond.fieldLinkNest "BlushCourt$Blush" 45 "BlushCourt$Row" "count" "I" "BlushCourt") ∈ zT := zq_1 140 rfl rfl
theorem zw_124 : (Cond.fieldLinkNest "BlushCourt$Blush" 50 "BlushCourt$Row" "shade" "[I" "BlushCourt") ∈ zT := zq_1 124 rfl rfl
theorem zw_8 : (Cond.initialized "BlushCourt$Blush") ∈ zT := zq_1 8 rfl rfl
theorem zw_469 : (Cond.code ⟨"BlushCourt$Blush", "fallsBy", "(LBlushCourt$Court;I)I"⟩ prog_3_method_2_code 3 (some .int)) ∈ zT := zq_2 229 rfl rfl
theorem zw_466 : (Cond.methodLink "BlushCourt$Blush" 53 ⟨"BlushCourt$Blush", "fallsBy", "(LBlushCourt$Court;I)I"⟩) ∈ zT := zq_2 226 rfl rfl
theorem zw_467 : (Cond.instanceMethod ⟨"BlushCourt$Blush", "fallsBy", "(LBlushCourt$Court;I)I"⟩) ∈ zT := zq_2 227 rfl rfl
theorem zw_468 : (Cond.selects "BlushCourt$Blush" ⟨"BlushCourt$Blush", "fallsBy", "(LBlushCourt$Court;I)I"⟩ ⟨"BlushCourt$Blush", "fallsBy", "(LBlushCourt$Court;I)I"⟩) ∈ zT := zq_2 228 rfl rfl
theorem zw_482 : (Cond.methodLink "BlushCourt$Blush" 57 ⟨"java/lang/Math", "max", "(II)I"⟩) ∈ zT := zq_3 2 rfl rfl
theorem zw_483 : (Cond.static ⟨"java/lang/Math", "max", "(II)I"⟩) ∈ zT := zq_3 3 rfl rfl
theorem zw_484 : (Cond.code ⟨"java/lang/Math", "max", "(II)I"⟩ prog_23_method_65_code 2 (some .int)) ∈ zT := zq_3 4 rfl rfl
theorem zw_304 : (Cond.fieldLink "BlushCourt$Blush" 18 "BlushCourt$Blush" "weight" "[I") ∈ zT := zq_2 64 rfl rfl
theorem zw_517 : (Cond.code ⟨"BlushCourt$Court", "weighs", "(III)I"⟩ prog_5_method_8_code 7 (some .int)) ∈ zT := zq_3 37 rfl rfl
theorem zw_514 : (Cond.methodLink "BlushCourt$Blush" 63 ⟨"BlushCourt$Court", "weighs", "(III)I"⟩) ∈ zT := zq_3 34 rfl rfl
theorem zw_515 : (Cond.instanceMethod ⟨"BlushCourt$Court", "weighs", "(III)I"⟩) ∈ zT := zq_3 35 rfl rfl
theorem zw_516 : (Cond.selects "BlushCourt$Court" ⟨"BlushCourt$Court", "weighs", "(III)I"⟩ ⟨"BlushCourt$Court", "weighs", "(III)I"⟩) ∈ zT := zq_3 36 rfl rfl
theorem zw_306 : (Cond.fieldLink "BlushCourt$Blush" 22 "BlushCourt$Blush" "own" "[I") ∈ zT := zq_2 66 rfl rfl
theorem zw_521 : (Cond.code ⟨"BlushCourt$Blush", "ownOf", "(LBlushCourt$Court;I)I"⟩ prog_3_method_6_code 6 (some .int)) ∈ zT := zq_3 41 rfl rfl
theorem zw_518 : (Cond.methodLink "BlushCourt$Blush" 67 ⟨"BlushCourt$Blush", "ownOf", "(LBlushCourt$Court;I)I"⟩) ∈ zT := zq_3 38 rfl rfl
theorem zw_519 : (Cond.instanceMethod ⟨"BlushCourt$Blush", "ownOf", "(LBlushCourt$Court;I)I"⟩) ∈ zT := zq_3 39 rfl rfl
theorem zw_520 : (Cond.selects "BlushCourt$Blush" ⟨"BlushCourt$Blush", "ownOf", "(LBlushCourt$Court;I)I"⟩ ⟨"BlushCourt$Blush", "ownOf", "(LBlushCourt$Court;I)I"⟩) ∈ zT := zq_3 40 rfl rfl
theorem zw_308 : (Cond.fieldLink "BlushCourt$Blush" 25 "BlushCourt$Blush" "passed" "[I") ∈ zT := zq_2 68 rfl rfl
theorem zw_525 : (Cond.code ⟨"BlushCourt$Blush", "passes", "(LBlushCourt$Court;I)I"⟩ prog_3_method_7_code 3 (some .int)) ∈ zT := zq_3 45 rfl rfl
theorem zw_522 : (Cond.methodLink "BlushCourt$Blush" 70 ⟨"BlushCourt$Blush", "passes", "(LBlushCourt$Court;I)I"⟩) ∈ zT := zq_3 42 rfl rfl
theorem zw_524 : (Cond.instanceMethod ⟨"BlushCourt$Blush", "passes", "(LBlushCourt$Court;I)I"⟩) ∈ zT := zq_3 44 rfl rfl
theorem zws_1_3 : Cond.selects "BlushCourt$Blush" ⟨"BlushCourt$Blush", "passes", "(LBlushCourt$Court;I)I"⟩ ⟨"BlushCourt$Blush", "passes", "(LBlushCourt$Court;I)I"⟩ ∈ zT := zq_s (q := (⟨"BlushCourt$Blush", "passes", "(LBlushCourt$Court;I)I"⟩, 5)) (List.mem_append_left _ (List.mem_of_getElem? (i := 3) rfl))
theorem zw_135 : (Cond.fieldLinkNest "BlushCourt$Blush" 73 "BlushCourt$Row" "standing" "[I" "BlushCourt") ∈ zT := zq_1 135 rfl rfl
theorem zw_309 : (Cond.fieldLink "BlushCourt$Blush" 28 "BlushCourt$Blush" "risen" "[I") ∈ zT := zq_2 69 rfl rfl
theorem zw_110 : (Cond.fieldLinkNest "BlushCourt$Blush" 76 "BlushCourt$Row" "skin" "[I" "BlushCourt") ∈ zT := zq_1 110 rfl rfl
theorem zw_115 : (Cond.fieldLinkNest "BlushCourt$Blush" 79 "BlushCourt$Row" "shame" "[I" "BlushCourt") ∈ zT := zq_1 115 rfl rfl
theorem zw_120 : (Cond.fieldLinkNest "BlushCourt$Blush" 82 "BlushCourt$Row" "drink" "[I" "BlushCourt") ∈ zT := zq_1 120 rfl rfl
theorem zw_77 : (Cond.fieldLinkNest "BlushCourt$Blush" 85 "BlushCourt$Law" "lines" "I" "BlushCourt") ∈ zT := zq_1 77 rfl rfl
theorem zw_526 : (Cond.methodLink "BlushCourt$Blush" 88 ⟨"java/lang/Math", "min", "(II)I"⟩) ∈ zT := zq_3 46 rfl rfl
theorem zw_202 : (Cond.fieldLinkNest "BlushCourt$Blush" 91 "BlushCourt$Court" "sharp" "[I" "BlushCourt") ∈ zT := zq_1 202 rfl rfl
theorem zw_580 : (Cond.methodLinkNest "BlushCourt$Blush" 94 ⟨"BlushCourt", "readBy", "(II)I"⟩ "BlushCourt") ∈ zT := zq_3 100 rfl rfl
theorem zw_581 : (Cond.static ⟨"BlushCourt", "readBy", "(II)I"⟩) ∈ zT := zq_3 101 rfl rfl
theorem zw_1 : (Cond.initialized "BlushCourt") ∈ zT := zq_1 1 rfl rfl
theorem zw_582 : (Cond.code ⟨"BlushCourt", "readBy", "(II)I"⟩ prog_1_method_77_code 2 (some .int)) ∈ zT := zq_3 102 rfl rfl
theorem zw_215 : (Cond.fieldLinkNest "BlushCourt$Blush" 97 "BlushCourt$Court" "women" "I" "BlushCourt") ∈ zT := zq_1 215 rfl rfl
theorem zw_579 : (Cond.code ⟨"BlushCourt$Blush", "isSeen", "(LBlushCourt$Court;II)Z"⟩ prog_3_method_9_code 6 (some .boolean)) ∈ zT := zq_3 99 rfl rfl
theorem zw_576 : (Cond.methodLink "BlushCourt$Blush" 100 ⟨"BlushCourt$Blush", "isSeen", "(LBlushCourt$Court;II)Z"⟩) ∈ zT := zq_3 96 rfl rfl
theorem zw_577 : (Cond.instanceMethod ⟨"BlushCourt$Blush", "isSeen", "(LBlushCourt$Court;II)Z"⟩) ∈ zT := zq_3 97 rfl rfl
theorem zw_578 : (Cond.selects "BlushCourt$Blush" ⟨"BlushCourt$Blush", "isSeen", "(LBlushCourt$Court;II)Z"⟩ ⟨"BlushCourt$Blush", "isSeen", "(LBlushCourt$Court;II)Z"⟩) ∈ zT := zq_3 98 rfl rfl
theorem zw_222 : (Cond.fieldLinkNest "BlushCourt$Blush" 104 "BlushCourt$Court" "so" "I" "BlushCourt") ∈ zT := zq_1 222 rfl rfl
theorem zw_513 : (Cond.code ⟨"BlushCourt$Blush", "raise", "(LBlushCourt$Court;II)V"⟩ prog_3_method_5_code 7 (none : Option Jvm.ClassFile.FieldType)) ∈ zT := zq_3 33 rfl rfl
theorem zw_1076 : (Cond.methodLink "BlushCourt$Blush" 107 ⟨"BlushCourt$Blush", "raise", "(LBlushCourt$Court;II)V"⟩) ∈ zT := zq_5 116 rfl rfl
theorem zw_511 : (Cond.instanceMethod ⟨"BlushCourt$Blush", "raise", "(LBlushCourt$Court;II)V"⟩) ∈ zT := zq_3 31 rfl rfl
theorem zw_512 : (Cond.selects "BlushCourt$Blush" ⟨"BlushCourt$Blush", "raise", "(LBlushCourt$Court;II)V"⟩ ⟨"BlushCourt$Blush", "raise", "(LBlushCourt$Court;II)V"⟩) ∈ zT := zq_3 32 rfl rfl
theorem zw_1080 : (Cond.code ⟨"BlushCourt$Row", "darken", "(II)V"⟩ prog_10_method_4_code 3 (none : Option Jvm.ClassFile.FieldType)) ∈ zT := zq_5 120 rfl rfl
theorem zw_1077 : (Cond.methodLink "BlushCourt$Blush" 111 ⟨"BlushCourt$Row", "darken", "(II)V"⟩) ∈ zT := zq_5 117 rfl rfl
theorem zw_1078 : (Cond.instanceMethod ⟨"BlushCourt$Row", "darken", "(II)V"⟩) ∈ zT := zq_5 118 rfl rfl
theorem zw_1079 : (Cond.selects "BlushCourt$Row" ⟨"BlushCourt$Row", "darken", "(II)V"⟩ ⟨"BlushCourt$Row", "darken", "(II)V"⟩) ∈ zT := zq_5 119 rfl rfl
theorem zw_187 : (Cond.fieldLinkNest "BlushCourt$Blush" 115 "BlushCourt$Court" "log" "LBlushCourt$Log;" "BlushCourt") ∈ zT := zq_1 187 rfl rfl
theorem zw_237 : (Cond.fieldLinkNest "BlushCourt$Blush" 119 "BlushCourt$Court" "moment" "I" "BlushCourt") ∈ zT := zq_1 237 rfl rfl
theorem zw_1085 : (Cond.code ⟨"BlushCourt$Log", "add", "(IIIII)V"⟩ prog_9_method_3_code 8 (none : Option Jvm.ClassFile.FieldType)) ∈ zT := zq_5 125 rfl rfl
theorem zw_1082 : (Cond.methodLink "BlushCourt$Blush" 122 ⟨"BlushCourt$Log", "add", "(IIIII)V"⟩) ∈ zT := zq_5 122 rfl rfl
theorem zw_1083 : (Cond.instanceMethod ⟨"BlushCourt$Log", "add", "(IIIII)V"⟩) ∈ zT := zq_5 123 rfl rfl
theorem zw_1084 : (Cond.selects "BlushCourt$Log" ⟨"BlushCourt$Log", "add", "(IIIII)V"⟩ ⟨"BlushCourt$Log", "add", "(IIIII)V"⟩) ∈ zT := zq_5 124 rfl rfl
theorem zw_465 : (Cond.code ⟨"BlushCourt$Blush", "fall", "(LBlushCourt$Court;)V"⟩ prog_3_method_3_code 4 (none : Option Jvm.ClassFile.FieldType)) ∈ zT := zq_2 225 rfl rfl
theorem zw_1066 : (Cond.methodLink "BlushCourt$Blush" 128 ⟨"BlushCourt$Blush", "fall", "(LBlushCourt$Court;)V"⟩) ∈ zT := zq_5 106 rfl rfl
theorem zw_463 : (Cond.instanceMethod ⟨"BlushCourt$Blush", "fall", "(LBlushCourt$Court;)V"⟩) ∈ zT := zq_2 223 rfl rfl
theorem zw_464 : (Cond.selects "BlushCourt$Blush" ⟨"BlushCourt$Blush", "fall", "(LBlushCourt$Court;)V"⟩ ⟨"BlushCourt$Blush", "fall", "(LBlushCourt$Court;)V"⟩) ∈ zT := zq_2 224 rfl rfl
theorem zw_1070 : (Cond.code ⟨"BlushCourt$Court", "draw", "()I"⟩ prog_5_method_3_code 1 (some .int)) ∈ zT := zq_5 110 rfl rfl
theorem zw_1067 : (Cond.methodLink "BlushCourt$Blush" 132 ⟨"BlushCourt$Court", "draw", "()I"⟩) ∈ zT := zq_5 107 rfl rfl
theorem zw_1068 : (Cond.instanceMethod ⟨"BlushCourt$Court", "draw", "()I"⟩) ∈ zT := zq_5 108 rfl rfl
theorem zw_1069 : (Cond.selects "BlushCourt$Court" ⟨"BlushCourt$Court", "draw", "()I"⟩ ⟨"BlushCourt$Court", "draw", "()I"⟩) ∈ zT := zq_5 109 rfl rfl
theorem zw_234 : (Cond.fieldLinkNest "BlushCourt$Blush" 136 "BlushCourt$Court" "talk" "I" "BlushCourt") ∈ zT := zq_1 234 rfl rfl
theorem zw_210 : (Cond.fieldLinkNest "BlushCourt$Blush" 139 "BlushCourt$Court" "questions" "I" "BlushCourt") ∈ zT := zq_1 210 rfl rfl
theorem zw_1075 : (Cond.code ⟨"BlushCourt$Blush", "utter", "(LBlushCourt$Court;II)I"⟩ prog_3_method_12_code 6 (some .int)) ∈ zT := zq_5 115 rfl rfl
theorem zw_1072 : (Cond.methodLink "BlushCourt$Blush" 142 ⟨"BlushCourt$Blush", "utter", "(LBlushCourt$Court;II)I"⟩) ∈ zT := zq_5 112 rfl rfl
theorem zw_1073 : (Cond.instanceMethod ⟨"BlushCourt$Blush", "utter", "(LBlushCourt$Court;II)I"⟩) ∈ zT := zq_5 113 rfl rfl
theorem zw_1074 : (Cond.selects "BlushCourt$Blush" ⟨"BlushCourt$Blush", "utter", "(LBlushCourt$Court;II)I"⟩ ⟨"BlushCourt$Blush", "utter", "(LBlushCourt$Court;II)I"⟩) ∈ zT := zq_5 114 rfl rfl
theorem zw_1090 : (Cond.code ⟨"BlushCourt$Blush", "blushFalsely", "(LBlushCourt$Court;)V"⟩ prog_3_method_14_code 3 (none : Option Jvm.ClassFile.FieldType)) ∈ zT := zq_5 130 rfl rfl
theorem zw_1087 : (Cond.methodLink "BlushCourt$Blush" 146 ⟨"BlushCourt$Blush", "blushFalsely", "(LBlushCourt$Court;)V"⟩) ∈ zT := zq_5 127 rfl rfl
theorem zw_1089 : (Cond.instanceMethod ⟨"BlushCourt$Blush", "blushFalsely", "(LBlushCourt$Court;)V"⟩) ∈ zT := zq_5 129 rfl rfl
theorem zws_2_8 : Cond.selects "BlushCourt$Blush" ⟨"BlushCourt$Blush", "blushFalsely", "(LBlushCourt$Court;)V"⟩ ⟨"BlushCourt$Blush", "blushFalsely", "(LBlushCourt$Court;)V"⟩ ∈ zT := zq_s (q := (⟨"BlushCourt$Blush", "blushFalsely", "(LBlushCourt$Court;)V"⟩, 5)) (List.mem_append_right _ (List.mem_append_left _ (List.mem_of_getElem? (i := 8) rfl)))
theorem zw_230 : (Cond.fieldLinkNest "BlushCourt$Blush" 149 "BlushCourt$Court" "lies" "I" "BlushCourt") ∈ zT := zq_1 230 rfl rfl
theorem zw_508 : (Cond.code ⟨"BlushCourt$Court", "worldCount", "()I"⟩ prog_5_method_5_code 1 (some .int)) ∈ zT := zq_3 28 rfl rfl
theorem zw_505 : (Cond.methodLink "BlushCourt$Worlds" 24 ⟨"BlushCourt$Court", "worldCount", "()I"⟩) ∈ zT := zq_3 25 rfl rfl
theorem zw_506 : (Cond.instanceMethod ⟨"BlushCourt$Court", "worldCount", "()I"⟩) ∈ zT := zq_3 26 rfl rfl
theorem zw_507 : (Cond.selects "BlushCourt$Court" ⟨"BlushCourt$Court", "worldCount", "()I"⟩ ⟨"BlushCourt$Court", "worldCount", "()I"⟩) ∈ zT := zq_3 27 rfl rfl
theorem zw_196 : (Cond.fieldLinkNest "BlushCourt$Worlds" 30 "BlushCourt$Court" "asks" "[I" "BlushCourt") ∈ zT := zq_1 196 rfl rfl
theorem zw_510 : (Cond.methodLink "BlushCourt$Worlds" 39 ⟨"BlushCourt$Blush", "raise", "(LBlushCourt$Court;II)V"⟩) ∈ zT := zq_3 30 rfl rfl
theorem zw_310 : (Cond.fieldLinkNest "BlushCourt$Worlds" 45 "BlushCourt$Blush" "risen" "[I" "BlushCourt") ∈ zT := zq_2 70 rfl rfl
theorem zw_329 : (Cond.fieldLink "BlushCourt$Worlds" 9 "BlushCourt$Worlds" "rise" "[I") ∈ zT := zq_2 89 rfl rfl
theorem zw_333 : (Cond.laysFinal "BlushCourt$Worlds" "BlushCourt$Worlds" "rise" "[I") ∈ zT := zq_2 93 rfl rfl
theorem zw_335 : (Cond.laysFinal "BlushCourt$Worlds" "BlushCourt$Worlds" "part" "[I") ∈ zT := zq_2 95 rfl rfl
theorem zw_337 : (Cond.laysFinal "BlushCourt$Worlds" "BlushCourt$Worlds" "size" "[I") ∈ zT := zq_2 97 rfl rfl
theorem zw_339 : (Cond.laysFinal "BlushCourt$Worlds" "BlushCourt$Worlds" "unparted" "[I") ∈ zT := zq_2 99 rfl rfl
theorem zw_509 : (Cond.methodLink "BlushCourt$Worlds" 33 ⟨"java/lang/System", "arraycopy", "(Ljava/lang/Object;ILjava/lang/Object;II)V"⟩) ∈ zT := zq_3 29 rfl rfl
theorem zw_330 : (Cond.fieldLink "BlushCourt$Worlds" 15 "BlushCourt$Worlds" "part" "[I") ∈ zT := zq_2 90 rfl rfl
theorem zw_180 : (Cond.fieldLinkNest "BlushCourt$Worlds" 48 "BlushCourt$Court" "row" "LBlushCourt$Row;" "BlushCourt") ∈ zT := zq_1 180 rfl rfl
theorem zw_139 : (Cond.fieldLinkNest "BlushCourt$Worlds" 52 "BlushCourt$Row" "count" "I" "BlushCourt") ∈ zT := zq_1 139 rfl rfl
theorem zw_9 : (Cond.initialized "BlushCourt$Worlds") ∈ zT := zq_1 9 rfl rfl
theorem zw_532 : (Cond.code ⟨"BlushCourt$Worlds", "firstAlike", "(III)I"⟩ prog_12_method_3_code 5 (some .int)) ∈ zT := zq_3 52 rfl rfl
theorem zw_529 : (Cond.methodLink "BlushCourt$Worlds" 58 ⟨"BlushCourt$Worlds", "firstAlike", "(III)I"⟩) ∈ zT := zq_3 49 rfl rfl
theorem zw_531 : (Cond.instanceMethod ⟨"BlushCourt$Worlds", "firstAlike", "(III)I"⟩) ∈ zT := zq_3 51 rfl rfl
theorem zws_1_4 : Cond.selects "BlushCourt$Worlds" ⟨"BlushCourt$Worlds", "firstAlike", "(III)I"⟩ ⟨"BlushCourt$Worlds", "firstAlike", "(III)I"⟩ ∈ zT := zq_s (q := (⟨"BlushCourt$Worlds", "firstAlike", "(III)I"⟩, 4)) (List.mem_append_left _ (List.mem_of_getElem? (i := 4) rfl))
theorem zw_536 : (Cond.code ⟨"BlushCourt$Worlds", "isAlike", "(III)Z"⟩ prog_12_method_4_code 5 (some .boolean)) ∈ zT := zq_3 56 rfl rfl
theorem zw_533 : (Cond.methodLink "BlushCourt$Worlds" 62 ⟨"BlushCourt$Worlds", "isAlike", "(III)Z"⟩) ∈ zT := zq_3 53 rfl rfl
theorem zw_535 : (Cond.instanceMethod ⟨"BlushCourt$Worlds", "isAlike", "(III)Z"⟩) ∈ zT := zq_3 55 rfl rfl
theorem zws_1_5 : Cond.selects "BlushCourt$Worlds" ⟨"BlushCourt$Worlds", "isAlike", "(III)Z"⟩ ⟨"BlushCourt$Worlds", "isAlike", "(III)Z"⟩ ∈ zT := zq_s (q := (⟨"BlushCourt$Worlds", "isAlike", "(III)Z"⟩, 4)) (List.mem_append_left _ (List.mem_of_getElem? (i := 5) rfl))
theorem zw_1216 : (Cond.constantLong "BlushCourt$Worlds" 66 (-1 : Int64)) ∈ zT := zq_6 16 rfl rfl
theorem zw_209 : (Cond.fieldLinkNest "BlushCourt$Worlds" 68 "BlushCourt$Court" "questions" "I" "BlushCourt") ∈ zT := zq_1 209 rfl rfl
theorem zw_1210 : (Cond.code ⟨"BlushCourt$Tape", "told", "(II)I"⟩ prog_11_method_4_code 4 (some .int)) ∈ zT := zq_6 10 rfl rfl
theorem zw_1217 : (Cond.methodLink "BlushCourt$Worlds" 71 ⟨"BlushCourt$Tape", "told", "(II)I"⟩) ∈ zT := zq_6 17 rfl rfl
theorem zw_1208 : (Cond.instanceMethod ⟨"BlushCourt$Tape", "told", "(II)I"⟩) ∈ zT := zq_6 8 rfl rfl
theorem zw_1209 : (Cond.selects "BlushCourt$Tape" ⟨"BlushCourt$Tape", "told", "(II)I"⟩ ⟨"BlushCourt$Tape", "told", "(II)I"⟩) ∈ zT := zq_6 9 rfl rfl
theorem zw_504 : (Cond.code ⟨"BlushCourt$Worlds", "weigh", "(LBlushCourt$Blush;LBlushCourt$Court;I)V"⟩ prog_12_method_2_code 7 (none : Option Jvm.ClassFile.FieldType)) ∈ zT := zq_3 24 rfl rfl
theorem zw_501 : (Cond.methodLink "BlushCourt$Worlds" 77 ⟨"BlushCourt$Worlds", "weigh", "(LBlushCourt$Blush;LBlushCourt$Court;I)V"⟩) ∈ zT := zq_3 21 rfl rfl
theorem zw_503 : (Cond.instanceMethod ⟨"BlushCourt$Worlds", "weigh", "(LBlushCourt$Blush;LBlushCourt$Court;I)V"⟩) ∈ zT := zq_3 23 rfl rfl
theorem zws_1_2 : Cond.selects "BlushCourt$Worlds" ⟨"BlushCourt$Worlds", "weigh", "(LBlushCourt$Blush;LBlushCourt$Court;I)V"⟩ ⟨"BlushCourt$Worlds", "weigh", "(LBlushCourt$Blush;LBlushCourt$Court;I)V"⟩ ∈ zT := zq_s (q := (⟨"BlushCourt$Worlds", "weigh", "(LBlushCourt$Blush;LBlushCourt$Court;I)V"⟩, 4)) (List.mem_append_left _ (List.mem_of_getElem? (i := 2) rfl))
theorem zw_1221 : (Cond.code ⟨"BlushCourt$Worlds", "fittingRow", "(III)J"⟩ prog_12_method_6_code 8 (some .long)) ∈ zT := zq_6 21 rfl rfl
theorem zw_1218 : (Cond.methodLink "BlushCourt$Worlds" 81 ⟨"BlushCourt$Worlds", "fittingRow", "(III)J"⟩) ∈ zT := zq_6 18 rfl rfl
theorem zw_1220 : (Cond.instanceMethod ⟨"BlushCourt$Worlds", "fittingRow", "(III)J"⟩) ∈ zT := zq_6 20 rfl rfl
theorem zws_2_12 : Cond.selects "BlushCourt$Worlds" ⟨"BlushCourt$Worlds", "fittingRow", "(III)J"⟩ ⟨"BlushCourt$Worlds", "fittingRow", "(III)J"⟩ ∈ zT := zq_s (q := (⟨"BlushCourt$Worlds", "fittingRow", "(III)J"⟩, 4)) (List.mem_append_right _ (List.mem_append_left _ (List.mem_of_getElem? (i := 12) rfl)))
theorem zw_331 : (Cond.fieldLink "BlushCourt$Worlds" 18 "BlushCourt$Worlds" "size" "[I") ∈ zT := zq_2 91 rfl rfl
theorem zw_27 : (Cond.initialized "java/util/Arrays") ∈ zT := zq_1 27 rfl rfl
theorem zw_1010 : (Cond.code ⟨"java/util/Arrays", "fill", "([II)V"⟩ prog_33_method_103_code 4 (none : Option Jvm.ClassFile.FieldType)) ∈ zT := zq_5 50 rfl rfl
theorem zw_1008 : (Cond.methodLink "BlushCourt$Worlds" 85 ⟨"java/util/Arrays", "fill", "([II)V"⟩) ∈ zT := zq_5 48 rfl rfl
theorem zw_1009 : (Cond.static ⟨"java/util/Arrays", "fill", "([II)V"⟩) ∈ zT := zq_5 49 rfl rfl
theorem zw_1254 : (Cond.methodLink "BlushCourt$Worlds" 91 ⟨"java/lang/Math", "max", "(II)I"⟩) ∈ zT := zq_6 54 rfl rfl
theorem zw_540 : (Cond.code ⟨"BlushCourt$Worlds", "partedBy", "(III)I"⟩ prog_12_method_9_code 6 (some .int)) ∈ zT := zq_3 60 rfl rfl
theorem zw_537 : (Cond.methodLink "BlushCourt$Worlds" 96 ⟨"BlushCourt$Worlds", "partedBy", "(III)I"⟩) ∈ zT := zq_3 57 rfl rfl
theorem zw_539 : (Cond.instanceMethod ⟨"BlushCourt$Worlds", "partedBy", "(III)I"⟩) ∈ zT := zq_3 59 rfl rfl
theorem zws_1_6 : Cond.selects "BlushCourt$Worlds" ⟨"BlushCourt$Worlds", "partedBy", "(III)I"⟩ ⟨"BlushCourt$Worlds", "partedBy", "(III)I"⟩ ∈ zT := zq_s (q := (⟨"BlushCourt$Worlds", "partedBy", "(III)I"⟩, 4)) (List.mem_append_left _ (List.mem_of_getElem? (i := 6) rfl))
theorem zw_1007 : (Cond.code ⟨"BlushCourt$Worlds", "markUnparted", "(LBlushCourt$Court;I)V"⟩ prog_12_method_12_code 5 (none : Option Jvm.ClassFile.FieldType)) ∈ zT := zq_5 47 rfl rfl
theorem zw_1004 : (Cond.methodLink "BlushCourt$Worlds" 99 ⟨"BlushCourt$Worlds", "markUnparted", "(LBlushCourt$Court;I)V"⟩) ∈ zT := zq_5 44 rfl rfl
theorem zw_1006 : (Cond.instanceMethod ⟨"BlushCourt$Worlds", "markUnparted", "(LBlushCourt$Court;I)V"⟩) ∈ zT := zq_5 46 rfl rfl
theorem zws_2_4 : Cond.selects "BlushCourt$Worlds" ⟨"BlushCourt$Worlds", "markUnparted", "(LBlushCourt$Court;I)V"⟩ ⟨"BlushCourt$Worlds", "markUnparted", "(LBlushCourt$Court;I)V"⟩ ∈ zT := zq_s (q := (⟨"BlushCourt$Worlds", "markUnparted", "(LBlushCourt$Court;I)V"⟩, 4)) (List.mem_append_right _ (List.mem_append_left _ (List.mem_of_getElem? (i := 4) rfl)))
theorem zw_28 : (Cond.initialized "java/lang/Integer") ∈ zT := zq_1 28 rfl rfl
theorem zw_555 : (Cond.code ⟨"java/lang/Integer", "bitCount", "(I)I"⟩ prog_21_method_49_code 1 (some .int)) ∈ zT := zq_3 75 rfl rfl
theorem zw_1011 : (Cond.methodLink "BlushCourt$Worlds" 103 ⟨"java/lang/Integer", "bitCount", "(I)I"⟩) ∈ zT := zq_5 51 rfl rfl
theorem zw_554 : (Cond.static ⟨"java/lang/Integer", "bitCount", "(I)I"⟩) ∈ zT := zq_3 74 rfl rfl
theorem zw_332 : (Cond.fieldLink "BlushCourt$Worlds" 21 "BlushCourt$Worlds" "unparted" "[I") ∈ zT := zq_2 92 rfl rfl
theorem zw_351 : (Cond.fieldLink "BlushCourt$Apart" 18 "BlushCourt$Apart" "leastShared" "I") ∈ zT := zq_2 111 rfl rfl
theorem zw_354 : (Cond.laysFinal "BlushCourt$Apart" "BlushCourt$Apart" "best" "[I") ∈ zT := zq_2 114 rfl rfl
theorem zw_356 : (Cond.laysFinal "BlushCourt$Apart" "BlushCourt$Apart" "tried" "[I") ∈ zT := zq_2 116 rfl rfl
theorem zw_358 : (Cond.lays "BlushCourt$Apart" "BlushCourt$Apart" "leastShared" "I") ∈ zT := zq_2 118 rfl rfl
theorem zw_360 : (Cond.lays "BlushCourt$Apart" "BlushCourt$Apart" "fewestChanges" "I") ∈ zT := zq_2 120 rfl rfl
theorem zw_352 : (Cond.fieldLink "BlushCourt$Apart" 22 "BlushCourt$Apart" "fewestChanges" "I") ∈ zT := zq_2 112 rfl rfl
theorem zw_10 : (Cond.initialized "BlushCourt$Apart") ∈ zT := zq_1 10 rfl rfl
theorem zw_1295 : (Cond.code ⟨"BlushCourt$Apart", "extend", "(LBlushCourt$Row;III)V"⟩ prog_2_method_4_code 6 (none : Option Jvm.ClassFile.FieldType)) ∈ zT := zq_6 95 rfl rfl
theorem zw_1292 : (Cond.methodLink "BlushCourt$Apart" 25 ⟨"BlushCourt$Apart", "extend", "(LBlushCourt$Row;III)V"⟩) ∈ zT := zq_6 92 rfl rfl
theorem zw_1294 : (Cond.instanceMethod ⟨"BlushCourt$Apart", "extend", "(LBlushCourt$Row;III)V"⟩) ∈ zT := zq_6 94 rfl rfl
theorem zws_2_14 : Cond.selects "BlushCourt$Apart" ⟨"BlushCourt$Apart", "extend", "(LBlushCourt$Row;III)V"⟩ ⟨"BlushCourt$Apart", "extend", "(LBlushCourt$Row;III)V"⟩ ∈ zT := zq_s (q := (⟨"BlushCourt$Apart", "extend", "(LBlushCourt$Row;III)V"⟩, 4)) (List.mem_append_right _ (List.mem_append_left _ (List.mem_of_getElem? (i := 14) rfl)))
theorem zw_142 : (Cond.fieldLinkNest "BlushCourt$Apart" 29 "BlushCourt$Row" "count" "I" "BlushCourt") ∈ zT := zq_1 142 rfl rfl
theorem zw_1299 : (Cond.code ⟨"BlushCourt$Apart", "weighTried", "(LBlushCourt$Row;I)V"⟩ prog_2_method_5_code 5 (none : Option Jvm.ClassFile.FieldType)) ∈ zT := zq_6 99 rfl rfl
theorem zw_1296 : (Cond.methodLink "BlushCourt$Apart" 34 ⟨"BlushCourt$Apart", "weighTried", "(LBlushCourt$Row;I)V"⟩) ∈ zT := zq_6 96 rfl rfl
theorem zw_1298 : (Cond.instanceMethod ⟨"BlushCourt$Apart", "weighTried", "(LBlushCourt$Row;I)V"⟩) ∈ zT := zq_6 98 rfl rfl
theorem zws_2_15 : Cond.selects "BlushCourt$Apart" ⟨"BlushCourt$Apart", "weighTried", "(LBlushCourt$Row;I)V"⟩ ⟨"BlushCourt$Apart", "weighTried", "(LBlushCourt$Row;I)V"⟩ ∈ zT := zq_s (q := (⟨"BlushCourt$Apart", "weighTried", "(LBlushCourt$Row;I)V"⟩, 4)) (List.mem_append_right _ (List.mem_append_left _ (List.mem_of_getElem? (i := 15) rfl)))
theorem zw_350 : (Cond.fieldLink "BlushCourt$Apart" 15 "BlushCourt$Apart" "tried" "[I") ∈ zT := zq_2 110 rfl rfl
theorem zw_1280 : (Cond.code ⟨"BlushCourt$Apart", "sharedIn", "([III)I"⟩ prog_2_method_2_code 5 (some .int)) ∈ zT := zq_6 80 rfl rfl
theorem zw_1300 : (Cond.methodLink "BlushCourt$Apart" 38 ⟨"BlushCourt$Apart", "sharedIn", "([III)I"⟩) ∈ zT := zq_6 100 rfl rfl
theorem zw_1279 : (Cond.static ⟨"BlushCourt$Apart", "sharedIn", "([III)I"⟩) ∈ zT := zq_6 79 rfl rfl
theorem zw_1304 : (Cond.code ⟨"BlushCourt$Apart", "changesTo", "(LBlushCourt$Row;)I"⟩ prog_2_method_6_code 5 (some .int)) ∈ zT := zq_6 104 rfl rfl
theorem zw_1301 : (Cond.methodLink "BlushCourt$Apart" 42 ⟨"BlushCourt$Apart", "changesTo", "(LBlushCourt$Row;)I"⟩) ∈ zT := zq_6 101 rfl rfl
theorem zw_1303 : (Cond.instanceMethod ⟨"BlushCourt$Apart", "changesTo", "(LBlushCourt$Row;)I"⟩) ∈ zT := zq_6 103 rfl rfl
theorem zws_3_0 : Cond.selects "BlushCourt$Apart" ⟨"BlushCourt$Apart", "changesTo", "(LBlushCourt$Row;)I"⟩ ⟨"BlushCourt$Apart", "changesTo", "(LBlushCourt$Row;)I"⟩ ∈ zT := zq_s (q := (⟨"BlushCourt$Apart", "changesTo", "(LBlushCourt$Row;)I"⟩, 4)) (List.mem_append_right _ (List.mem_append_right _ (List.mem_append_left _ (List.mem_of_getElem? (i := 0) rfl))))
theorem zw_348 : (Cond.fieldLink "BlushCourt$Apart" 9 "BlushCourt$Apart" "best" "[I") ∈ zT := zq_2 108 rfl rfl
theorem zw_1305 : (Cond.methodLink "BlushCourt$Apart" 46 ⟨"java/lang/System", "arraycopy", "(Ljava/lang/Object;ILjava/lang/Object;II)V"⟩) ∈ zT := zq_6 105 rfl rfl
theorem zw_131 : (Cond.fieldLinkNest "BlushCourt$Apart" 52 "BlushCourt$Row" "place" "[I" "BlushCourt") ∈ zT := zq_1 131 rfl rfl
theorem zw_371 : (Cond.fieldLink "BlushCourt$Couples" 15 "BlushCourt$Couples" "tried" "[I") ∈ zT := zq_2 131 rfl rfl
theorem zw_374 : (Cond.laysFinal "BlushCourt$Couples" "BlushCourt$Couples" "best" "[I") ∈ zT := zq_2 134 rfl rfl
theorem zw_376 : (Cond.laysFinal "BlushCourt$Couples" "BlushCourt$Couples" "tried" "[I") ∈ zT := zq_2 136 rfl rfl
theorem zw_378 : (Cond.lays "BlushCourt$Couples" "BlushCourt$Couples" "most" "I") ∈ zT := zq_2 138 rfl rfl
theorem zw_1362 : (Cond.methodLink "BlushCourt$Couples" 22 ⟨"java/util/Arrays", "fill", "([II)V"⟩) ∈ zT := zq_6 162 rfl rfl
theorem zw_372 : (Cond.fieldLink "BlushCourt$Couples" 18 "BlushCourt$Couples" "most" "I") ∈ zT := zq_2 132 rfl rfl
theorem zw_11 : (Cond.initialized "BlushCourt$Couples") ∈ zT := zq_1 11 rfl rfl
theorem zw_1366 : (Cond.code ⟨"BlushCourt$Couples", "extend", "(LBlushCourt$Court;II)V"⟩ prog_4_method_3_code 5 (none : Option Jvm.ClassFile.FieldType)) ∈ zT := zq_6 166 rfl rfl
theorem zw_1363 : (Cond.methodLink "BlushCourt$Couples" 28 ⟨"BlushCourt$Couples", "extend", "(LBlushCourt$Court;II)V"⟩) ∈ zT := zq_6 163 rfl rfl
theorem zw_1365 : (Cond.instanceMethod ⟨"BlushCourt$Couples", "extend", "(LBlushCourt$Court;II)V"⟩) ∈ zT := zq_6 165 rfl rfl
theorem zws_3_3 : Cond.selects "BlushCourt$Couples" ⟨"BlushCourt$Couples", "extend", "(LBlushCourt$Court;II)V"⟩ ⟨"BlushCourt$Couples", "extend", "(LBlushCourt$Court;II)V"⟩ ∈ zT := zq_s (q := (⟨"BlushCourt$Couples", "extend", "(LBlushCourt$Court;II)V"⟩, 3)) (List.mem_append_right _ (List.mem_append_right _ (List.mem_append_left _ (List.mem_of_getElem? (i := 3) rfl))))
theorem zw_213 : (Cond.fieldLinkNest "BlushCourt$Couples" 32 "BlushCourt$Court" "women" "I" "BlushCourt") ∈ zT := zq_1 213 rfl rfl
theorem zw_369 : (Cond.fieldLink "BlushCourt$Couples" 9 "BlushCourt$Couples" "best" "[I") ∈ zT := zq_2 129 rfl rfl
theorem zw_1367 : (Cond.methodLink "BlushCourt$Couples" 37 ⟨"java/lang/System", "arraycopy", "(Ljava/lang/Object;ILjava/lang/Object;II)V"⟩) ∈ zT := zq_6 167 rfl rfl
theorem zw_1370 : (Cond.code ⟨"BlushCourt$Couples", "unlike", "(LBlushCourt$Court;II)I"⟩ prog_4_method_4_code 6 (some .int)) ∈ zT := zq_6 170 rfl rfl
theorem zw_1368 : (Cond.methodLink "BlushCourt$Couples" 43 ⟨"BlushCourt$Couples", "unlike", "(LBlushCourt$Court;II)I"⟩) ∈ zT := zq_6 168 rfl rfl
theorem zw_1369 : (Cond.static ⟨"BlushCourt$Couples", "unlike", "(LBlushCourt$Court;II)I"⟩) ∈ zT := zq_6 169 rfl rfl
theorem zw_183 : (Cond.fieldLinkNest "BlushCourt$Couples" 47 "BlushCourt$Court" "row" "LBlushCourt$Row;" "BlushCourt") ∈ zT := zq_1 183 rfl rfl
theorem zw_143 : (Cond.fieldLinkNest "BlushCourt$Couples" 51 "BlushCourt$Row" "count" "I" "BlushCourt") ∈ zT := zq_1 143 rfl rfl
theorem zw_125 : (Cond.fieldLinkNest "BlushCourt$Couples" 56 "BlushCourt$Row" "shade" "[I" "BlushCourt") ∈ zT := zq_1 125 rfl rfl
theorem zw_200 : (Cond.fieldLinkNest "BlushCourt$Couples" 59 "BlushCourt$Court" "sharp" "[I" "BlushCourt") ∈ zT := zq_1 200 rfl rfl
theorem zw_1371 : (Cond.methodLinkNest "BlushCourt$Couples" 62 ⟨"BlushCourt", "readBy", "(II)I"⟩ "BlushCourt") ∈ zT := zq_6 171 rfl rfl
theorem zw_633 : (Cond.methodLink "BlushCourt$CourtText" 9 ⟨"BlushCourt$Tape", "open", "()V"⟩) ∈ zT := zq_3 153 rfl rfl
theorem zw_641 : (Cond.methodLink "BlushCourt$CourtText" 14 ⟨"BlushCourt$Tape", "isEnd", "()Z"⟩) ∈ zT := zq_3 161 rfl rfl
theorem zw_14 : (Cond.initialized "BlushCourt$CourtText") ∈ zT := zq_1 14 rfl rfl
theorem zw_647 : (Cond.code ⟨"BlushCourt$CourtText", "readLine", "(LBlushCourt$Tape;LBlushCourt$Court;)Z"⟩ prog_6_method_3_code 2 (some .boolean)) ∈ zT := zq_3 167 rfl rfl
theorem zw_645 : (Cond.methodLink "BlushCourt$CourtText" 18 ⟨"BlushCourt$CourtText", "readLine", "(LBlushCourt$Tape;LBlushCourt$Court;)Z"⟩) ∈ zT := zq_3 165 rfl rfl
theorem zw_646 : (Cond.static ⟨"BlushCourt$CourtText", "readLine", "(LBlushCourt$Tape;LBlushCourt$Court;)Z"⟩) ∈ zT := zq_3 166 rfl rfl
theorem zw_750 : (Cond.methodLink "BlushCourt$CourtText" 24 ⟨"BlushCourt$Tape", "takeSign", "(C)Z"⟩) ∈ zT := zq_4 30 rfl rfl
theorem zw_649 : (Cond.methodLink "BlushCourt$CourtText" 30 ⟨"BlushCourt$Tape", "isWord", "(Ljava/lang/String;)Z"⟩) ∈ zT := zq_3 169 rfl rfl
theorem zw_745 : (Cond.code ⟨"BlushCourt$CourtText", "readNumber", "(LBlushCourt$Tape;LBlushCourt$Court;)Z"⟩ prog_6_method_4_code 2 (some .boolean)) ∈ zT := zq_4 25 rfl rfl
theorem zw_743 : (Cond.methodLink "BlushCourt$CourtText" 74 ⟨"BlushCourt$CourtText", "readNumber", "(LBlushCourt$Tape;LBlushCourt$Court;)Z"⟩) ∈ zT := zq_4 23 rfl rfl
theorem zw_744 : (Cond.static ⟨"BlushCourt$CourtText", "readNumber", "(LBlushCourt$Tape;LBlushCourt$Court;)Z"⟩) ∈ zT := zq_4 24 rfl rfl
theorem zw_214 : (Cond.fieldLinkNest "BlushCourt$CourtText" 68 "BlushCourt$Court" "women" "I" "BlushCourt") ∈ zT := zq_1 214 rfl rfl
theorem zw_741 : (Cond.code ⟨"BlushCourt$CourtText", "readWoman", "(LBlushCourt$Tape;LBlushCourt$Court;)Z"⟩ prog_6_method_8_code 3 (some .boolean)) ∈ zT := zq_4 21 rfl rfl
theorem zw_739 : (Cond.methodLink "BlushCourt$CourtText" 71 ⟨"BlushCourt$CourtText", "readWoman", "(LBlushCourt$Tape;LBlushCourt$Court;)Z"⟩) ∈ zT := zq_4 19 rfl rfl
theorem zw_740 : (Cond.static ⟨"BlushCourt$CourtText", "readWoman", "(LBlushCourt$Tape;LBlushCourt$Court;)Z"⟩) ∈ zT := zq_4 20 rfl rfl
theorem zw_208 : (Cond.fieldLinkNest "BlushCourt$CourtText" 60 "BlushCourt$Court" "questions" "I" "BlushCourt") ∈ zT := zq_1 208 rfl rfl
theorem zw_737 : (Cond.code ⟨"BlushCourt$CourtText", "readQuestion", "(LBlushCourt$Tape;LBlushCourt$Court;)Z"⟩ prog_6_method_7_code 3 (some .boolean)) ∈ zT := zq_4 17 rfl rfl
theorem zw_735 : (Cond.methodLink "BlushCourt$CourtText" 63 ⟨"BlushCourt$CourtText", "readQuestion", "(LBlushCourt$Tape;LBlushCourt$Court;)Z"⟩) ∈ zT := zq_4 15 rfl rfl
theorem zw_736 : (Cond.static ⟨"BlushCourt$CourtText", "readQuestion", "(LBlushCourt$Tape;LBlushCourt$Court;)Z"⟩) ∈ zT := zq_4 16 rfl rfl
theorem zw_205 : (Cond.fieldLinkNest "BlushCourt$CourtText" 52 "BlushCourt$Court" "things" "I" "BlushCourt") ∈ zT := zq_1 205 rfl rfl
theorem zw_725 : (Cond.code ⟨"BlushCourt$CourtText", "readThing", "(LBlushCourt$Tape;LBlushCourt$Court;)Z"⟩ prog_6_method_6_code 6 (some .boolean)) ∈ zT := zq_4 5 rfl rfl
theorem zw_723 : (Cond.methodLink "BlushCourt$CourtText" 55 ⟨"BlushCourt$CourtText", "readThing", "(LBlushCourt$Tape;LBlushCourt$Court;)Z"⟩) ∈ zT := zq_4 3 rfl rfl
theorem zw_724 : (Cond.static ⟨"BlushCourt$CourtText", "readThing", "(LBlushCourt$Tape;LBlushCourt$Court;)Z"⟩) ∈ zT := zq_4 4 rfl rfl
theorem zw_182 : (Cond.fieldLinkNest "BlushCourt$CourtText" 34 "BlushCourt$Court" "row" "LBlushCourt$Row;" "BlushCourt") ∈ zT := zq_1 182 rfl rfl
theorem zw_141 : (Cond.fieldLinkNest "BlushCourt$CourtText" 40 "BlushCourt$Row" "count" "I" "BlushCourt") ∈ zT := zq_1 141 rfl rfl
theorem zw_703 : (Cond.code ⟨"BlushCourt$CourtText", "readWitness", "(LBlushCourt$Tape;LBlushCourt$Row;)Z"⟩ prog_6_method_5_code 7 (some .boolean)) ∈ zT := zq_3 223 rfl rfl
theorem zw_701 : (Cond.methodLink "BlushCourt$CourtText" 46 ⟨"BlushCourt$CourtText", "readWitness", "(LBlushCourt$Tape;LBlushCourt$Row;)Z"⟩) ∈ zT := zq_3 221 rfl rfl
theorem zw_702 : (Cond.static ⟨"BlushCourt$CourtText", "readWitness", "(LBlushCourt$Tape;LBlushCourt$Row;)Z"⟩) ∈ zT := zq_3 222 rfl rfl
theorem zw_709 : (Cond.code ⟨"BlushCourt$Tape", "takeNumberAfter", "(Ljava/lang/String;II)I"⟩ prog_11_method_13_code 4 (some .int)) ∈ zT := zq_3 229 rfl rfl
theorem zw_706 : (Cond.methodLink "BlushCourt$CourtText" 79 ⟨"BlushCourt$Tape", "takeNumberAfter", "(Ljava/lang/String;II)I"⟩) ∈ zT := zq_3 226 rfl rfl
theorem zw_707 : (Cond.instanceMethod ⟨"BlushCourt$Tape", "takeNumberAfter", "(Ljava/lang/String;II)I"⟩) ∈ zT := zq_3 227 rfl rfl
theorem zw_708 : (Cond.selects "BlushCourt$Tape" ⟨"BlushCourt$Tape", "takeNumberAfter", "(Ljava/lang/String;II)I"⟩ ⟨"BlushCourt$Tape", "takeNumberAfter", "(Ljava/lang/String;II)I"⟩) ∈ zT := zq_3 228 rfl rfl
theorem zw_236 : (Cond.fieldLinkNest "BlushCourt$CourtText" 96 "BlushCourt$Court" "moment" "I" "BlushCourt") ∈ zT := zq_1 236 rfl rfl
theorem zw_233 : (Cond.fieldLinkNest "BlushCourt$CourtText" 92 "BlushCourt$Court" "talk" "I" "BlushCourt") ∈ zT := zq_1 233 rfl rfl
theorem zw_229 : (Cond.fieldLinkNest "BlushCourt$CourtText" 87 "BlushCourt$Court" "lies" "I" "BlushCourt") ∈ zT := zq_1 229 rfl rfl
theorem zw_225 : (Cond.fieldLinkNest "BlushCourt$CourtText" 83 "BlushCourt$Court" "heat" "I" "BlushCourt") ∈ zT := zq_1 225 rfl rfl
theorem zw_704 : (Cond.methodLink "BlushCourt$CourtText" 98 ⟨"BlushCourt$Tape", "advance", "()V"⟩) ∈ zT := zq_3 224 rfl rfl
theorem zw_109 : (Cond.fieldLinkNest "BlushCourt$CourtText" 109 "BlushCourt$Row" "skin" "[I" "BlushCourt") ∈ zT := zq_1 109 rfl rfl
theorem zw_114 : (Cond.fieldLinkNest "BlushCourt$CourtText" 112 "BlushCourt$Row" "shame" "[I" "BlushCourt") ∈ zT := zq_1 114 rfl rfl
theorem zw_119 : (Cond.fieldLinkNest "BlushCourt$CourtText" 114 "BlushCourt$Row" "drink" "[I" "BlushCourt") ∈ zT := zq_1 119 rfl rfl
theorem zw_126 : (Cond.fieldLinkNest "BlushCourt$CourtText" 116 "BlushCourt$Row" "shade" "[I" "BlushCourt") ∈ zT := zq_1 126 rfl rfl
theorem zw_130 : (Cond.fieldLinkNest "BlushCourt$CourtText" 118 "BlushCourt$Row" "place" "[I" "BlushCourt") ∈ zT := zq_1 130 rfl rfl
theorem zw_136 : (Cond.fieldLinkNest "BlushCourt$CourtText" 121 "BlushCourt$Row" "standing" "[I" "BlushCourt") ∈ zT := zq_1 136 rfl rfl
theorem zw_728 : (Cond.methodLink "BlushCourt$CourtText" 128 ⟨"BlushCourt$Tape", "takeWord", "(Ljava/lang/String;)Z"⟩) ∈ zT := zq_4 8 rfl rfl
theorem zw_732 : (Cond.code ⟨"BlushCourt$Tape", "takeLetters", "(I)I"⟩ prog_11_method_14_code 5 (some .int)) ∈ zT := zq_4 12 rfl rfl
theorem zw_729 : (Cond.methodLink "BlushCourt$CourtText" 131 ⟨"BlushCourt$Tape", "takeLetters", "(I)I"⟩) ∈ zT := zq_4 9 rfl rfl
theorem zw_730 : (Cond.instanceMethod ⟨"BlushCourt$Tape", "takeLetters", "(I)I"⟩) ∈ zT := zq_4 10 rfl rfl
theorem zw_731 : (Cond.selects "BlushCourt$Tape" ⟨"BlushCourt$Tape", "takeLetters", "(I)I"⟩ ⟨"BlushCourt$Tape", "takeLetters", "(I)I"⟩) ∈ zT := zq_4 11 rfl rfl
theorem zw_190 : (Cond.fieldLinkNest "BlushCourt$CourtText" 137 "BlushCourt$Court" "weight" "[I" "BlushCourt") ∈ zT := zq_1 190 rfl rfl
theorem zw_193 : (Cond.fieldLinkNest "BlushCourt$CourtText" 139 "BlushCourt$Court" "touches" "[I" "BlushCourt") ∈ zT := zq_1 193 rfl rfl
theorem zw_220 : (Cond.fieldLinkNest "BlushCourt$CourtText" 141 "BlushCourt$Court" "so" "I" "BlushCourt") ∈ zT := zq_1 220 rfl rfl
theorem zw_197 : (Cond.fieldLinkNest "BlushCourt$CourtText" 143 "BlushCourt$Court" "asks" "[I" "BlushCourt") ∈ zT := zq_1 197 rfl rfl
theorem zw_201 : (Cond.fieldLinkNest "BlushCourt$CourtText" 148 "BlushCourt$Court" "sharp" "[I" "BlushCourt") ∈ zT := zq_1 201 rfl rfl
theorem zw_381 : (Cond.fieldLink "BlushCourt" 10 "BlushCourt" "tape" "LBlushCourt$Tape;") ∈ zT := zq_2 141 rfl rfl
theorem zw_394 : (Cond.laysFinal "BlushCourt" "BlushCourt" "tape" "LBlushCourt$Tape;") ∈ zT := zq_2 154 rfl rfl
theorem zw_396 : (Cond.laysFinal "BlushCourt" "BlushCourt" "draftLaw" "LBlushCourt$Law;") ∈ zT := zq_2 156 rfl rfl
theorem zw_398 : (Cond.laysFinal "BlushCourt" "BlushCourt" "keptLaw" "LBlushCourt$Law;") ∈ zT := zq_2 158 rfl rfl
theorem zw_400 : (Cond.laysFinal "BlushCourt" "BlushCourt" "now" "LBlushCourt$Court;") ∈ zT := zq_2 160 rfl rfl
theorem zw_402 : (Cond.laysFinal "BlushCourt" "BlushCourt" "scratch" "LBlushCourt$Court;") ∈ zT := zq_2 162 rfl rfl
theorem zw_404 : (Cond.laysFinal "BlushCourt" "BlushCourt" "kept" "LBlushCourt$Court;") ∈ zT := zq_2 164 rfl rfl
theorem zw_406 : (Cond.laysFinal "BlushCourt" "BlushCourt" "history" "LBlushCourt$History;") ∈ zT := zq_2 166 rfl rfl
theorem zw_408 : (Cond.laysFinal "BlushCourt" "BlushCourt" "blush" "LBlushCourt$Blush;") ∈ zT := zq_2 168 rfl rfl
theorem zw_410 : (Cond.laysFinal "BlushCourt" "BlushCourt" "worlds" "LBlushCourt$Worlds;") ∈ zT := zq_2 170 rfl rfl
theorem zw_412 : (Cond.laysFinal "BlushCourt" "BlushCourt" "parting" "LBlushCourt$Apart;") ∈ zT := zq_2 172 rfl rfl
theorem zw_414 : (Cond.laysFinal "BlushCourt" "BlushCourt" "pairing" "LBlushCourt$Couples;") ∈ zT := zq_2 174 rfl rfl
theorem zw_416 : (Cond.lays "BlushCourt" "BlushCourt" "wrongByte" "I") ∈ zT := zq_2 176 rfl rfl
theorem zw_418 : (Cond.lays "BlushCourt" "BlushCourt" "imaged" "Z") ∈ zT := zq_2 178 rfl rfl
theorem zw_46 : (Cond.fieldLinkNest "BlushCourt" 82 "BlushCourt$Tape" "size" "I" "BlushCourt") ∈ zT := zq_1 46 rfl rfl
theorem zw_428 : (Cond.code ⟨"BlushCourt$Tape", "add", "(I)V"⟩ prog_11_method_2_code 3 (none : Option Jvm.ClassFile.FieldType)) ∈ zT := zq_2 188 rfl rfl
theorem zw_425 : (Cond.methodLink "BlushCourt" 85 ⟨"BlushCourt$Tape", "add", "(I)V"⟩) ∈ zT := zq_2 185 rfl rfl
theorem zw_426 : (Cond.instanceMethod ⟨"BlushCourt$Tape", "add", "(I)V"⟩) ∈ zT := zq_2 186 rfl rfl
theorem zw_427 : (Cond.selects "BlushCourt$Tape" ⟨"BlushCourt$Tape", "add", "(I)V"⟩ ⟨"BlushCourt$Tape", "add", "(I)V"⟩) ∈ zT := zq_2 187 rfl rfl
theorem zw_385 : (Cond.fieldLink "BlushCourt" 33 "BlushCourt" "scratch" "LBlushCourt$Court;") ∈ zT := zq_2 145 rfl rfl
theorem zw_384 : (Cond.fieldLink "BlushCourt" 29 "BlushCourt" "now" "LBlushCourt$Court;") ∈ zT := zq_2 144 rfl rfl
theorem zw_441 : (Cond.methodLink "BlushCourt" 89 ⟨"BlushCourt$Court", "copy", "(LBlushCourt$Court;)V"⟩) ∈ zT := zq_2 201 rfl rfl
theorem zw_632 : (Cond.code ⟨"BlushCourt$CourtText", "read", "(LBlushCourt$Tape;LBlushCourt$Court;)Z"⟩ prog_6_method_2_code 3 (some .boolean)) ∈ zT := zq_3 152 rfl rfl
theorem zw_630 : (Cond.methodLink "BlushCourt" 93 ⟨"BlushCourt$CourtText", "read", "(LBlushCourt$Tape;LBlushCourt$Court;)Z"⟩) ∈ zT := zq_3 150 rfl rfl
theorem zw_631 : (Cond.static ⟨"BlushCourt$CourtText", "read", "(LBlushCourt$Tape;LBlushCourt$Court;)Z"⟩) ∈ zT := zq_3 151 rfl rfl
theorem zw_49 : (Cond.fieldLinkNest "BlushCourt" 99 "BlushCourt$Tape" "begin" "I" "BlushCourt") ∈ zT := zq_1 49 rfl rfl
theorem zw_392 : (Cond.fieldLink "BlushCourt" 74 "BlushCourt" "wrongByte" "I") ∈ zT := zq_2 152 rfl rfl
theorem zw_761 : (Cond.code ⟨"BlushCourt$Tape", "useUp", "()I"⟩ prog_11_method_3_code 2 (some .int)) ∈ zT := zq_4 41 rfl rfl
theorem zw_758 : (Cond.methodLink "BlushCourt" 102 ⟨"BlushCourt$Tape", "useUp", "()I"⟩) ∈ zT := zq_4 38 rfl rfl
theorem zw_759 : (Cond.instanceMethod ⟨"BlushCourt$Tape", "useUp", "()I"⟩) ∈ zT := zq_4 39 rfl rfl
theorem zw_760 : (Cond.selects "BlushCourt$Tape" ⟨"BlushCourt$Tape", "useUp", "()I"⟩ ⟨"BlushCourt$Tape", "useUp", "()I"⟩) ∈ zT := zq_4 40 rfl rfl
theorem zw_218 : (Cond.fieldLinkNest "BlushCourt" 113 "BlushCourt$Court" "texts" "I" "BlushCourt") ∈ zT := zq_1 218 rfl rfl
theorem zw_387 : (Cond.fieldLink "BlushCourt" 42 "BlushCourt" "history" "LBlushCourt$History;") ∈ zT := zq_2 147 rfl rfl
theorem zw_7 : (Cond.initialized "BlushCourt$History") ∈ zT := zq_1 7 rfl rfl
theorem zw_616 : (Cond.code ⟨"BlushCourt$History", "forget", "()V"⟩ prog_7_method_4_code 1 (none : Option Jvm.ClassFile.FieldType)) ∈ zT := zq_3 136 rfl rfl
theorem zw_613 : (Cond.methodLink "BlushCourt" 121 ⟨"BlushCourt$History", "forget", "()V"⟩) ∈ zT := zq_3 133 rfl rfl
theorem zw_614 : (Cond.instanceMethod ⟨"BlushCourt$History", "forget", "()V"⟩) ∈ zT := zq_3 134 rfl rfl
theorem zw_615 : (Cond.selects "BlushCourt$History" ⟨"BlushCourt$History", "forget", "()V"⟩ ⟨"BlushCourt$History", "forget", "()V"⟩) ∈ zT := zq_3 135 rfl rfl
theorem zw_831 : (Cond.classLink "BlushCourt" 116 "java/lang/UnsupportedOperationException") ∈ zT := zq_4 111 rfl rfl
theorem zw_23 : (Cond.initialized "java/lang/UnsupportedOperationException") ∈ zT := zq_1 23 rfl rfl
theorem zw_762 : (Cond.classLink "BlushCourt" 106 "java/lang/IllegalArgumentException") ∈ zT := zq_4 42 rfl rfl
theorem zw_22 : (Cond.initialized "java/lang/IllegalArgumentException") ∈ zT := zq_1 22 rfl rfl
theorem zw_382 : (Cond.fieldLink "BlushCourt" 19 "BlushCourt" "draftLaw" "LBlushCourt$Law;") ∈ zT := zq_2 142 rfl rfl
theorem zw_857 : (Cond.code ⟨"BlushCourt$Law", "read", "(LBlushCourt$Tape;)Z"⟩ prog_8_method_3_code 3 (some .boolean)) ∈ zT := zq_4 137 rfl rfl
theorem zw_854 : (Cond.methodLink "BlushCourt" 124 ⟨"BlushCourt$Law", "read", "(LBlushCourt$Tape;)Z"⟩) ∈ zT := zq_4 134 rfl rfl
theorem zw_855 : (Cond.instanceMethod ⟨"BlushCourt$Law", "read", "(LBlushCourt$Tape;)Z"⟩) ∈ zT := zq_4 135 rfl rfl
theorem zw_856 : (Cond.selects "BlushCourt$Law" ⟨"BlushCourt$Law", "read", "(LBlushCourt$Tape;)Z"⟩ ⟨"BlushCourt$Law", "read", "(LBlushCourt$Tape;)Z"⟩) ∈ zT := zq_4 136 rfl rfl
theorem zw_388 : (Cond.fieldLink "BlushCourt" 49 "BlushCourt" "blush" "LBlushCourt$Blush;") ∈ zT := zq_2 148 rfl rfl
theorem zw_303 : (Cond.fieldLinkNest "BlushCourt" 127 "BlushCourt$Blush" "law" "LBlushCourt$Law;" "BlushCourt") ∈ zT := zq_2 63 rfl rfl
theorem zw_607 : (Cond.code ⟨"BlushCourt$Law", "copy", "(LBlushCourt$Law;)V"⟩ prog_8_method_2_code 2 (none : Option Jvm.ClassFile.FieldType)) ∈ zT := zq_3 127 rfl rfl
theorem zw_604 : (Cond.methodLink "BlushCourt" 130 ⟨"BlushCourt$Law", "copy", "(LBlushCourt$Law;)V"⟩) ∈ zT := zq_3 124 rfl rfl
theorem zw_605 : (Cond.instanceMethod ⟨"BlushCourt$Law", "copy", "(LBlushCourt$Law;)V"⟩) ∈ zT := zq_3 125 rfl rfl
theorem zw_606 : (Cond.selects "BlushCourt$Law" ⟨"BlushCourt$Law", "copy", "(LBlushCourt$Law;)V"⟩ ⟨"BlushCourt$Law", "copy", "(LBlushCourt$Law;)V"⟩) ∈ zT := zq_3 126 rfl rfl
theorem zw_76 : (Cond.fieldLinkNest "BlushCourt" 133 "BlushCourt$Law" "lines" "I" "BlushCourt") ∈ zT := zq_1 76 rfl rfl
theorem zw_934 : (Cond.code ⟨"BlushCourt", "needWitness", "(I)V"⟩ prog_1_method_60_code 2 (none : Option Jvm.ClassFile.FieldType)) ∈ zT := zq_4 214 rfl rfl
theorem zw_931 : (Cond.methodLink "BlushCourt" 136 ⟨"BlushCourt", "needWitness", "(I)V"⟩) ∈ zT := zq_4 211 rfl rfl
theorem zw_933 : (Cond.instanceMethod ⟨"BlushCourt", "needWitness", "(I)V"⟩) ∈ zT := zq_4 213 rfl rfl
theorem zws_2_0 : Cond.selects "BlushCourt" ⟨"BlushCourt", "needWitness", "(I)V"⟩ ⟨"BlushCourt", "needWitness", "(I)V"⟩ ∈ zT := zq_s (q := (⟨"BlushCourt", "needWitness", "(I)V"⟩, 13)) (List.mem_append_right _ (List.mem_append_left _ (List.mem_of_getElem? (i := 0) rfl)))
theorem zw_184 : (Cond.fieldLinkNest "BlushCourt" 139 "BlushCourt$Court" "row" "LBlushCourt$Row;" "BlushCourt") ∈ zT := zq_1 184 rfl rfl
theorem zw_111 : (Cond.fieldLinkNest "BlushCourt" 143 "BlushCourt$Row" "skin" "[I" "BlushCourt") ∈ zT := zq_1 111 rfl rfl
theorem zw_116 : (Cond.fieldLinkNest "BlushCourt" 149 "BlushCourt$Row" "shame" "[I" "BlushCourt") ∈ zT := zq_1 116 rfl rfl
theorem zw_121 : (Cond.fieldLinkNest "BlushCourt" 152 "BlushCourt$Row" "drink" "[I" "BlushCourt") ∈ zT := zq_1 121 rfl rfl
theorem zw_127 : (Cond.fieldLinkNest "BlushCourt" 155 "BlushCourt$Row" "shade" "[I" "BlushCourt") ∈ zT := zq_1 127 rfl rfl
theorem zw_132 : (Cond.fieldLinkNest "BlushCourt" 158 "BlushCourt$Row" "place" "[I" "BlushCourt") ∈ zT := zq_1 132 rfl rfl
theorem zw_951 : (Cond.methodLink "BlushCourt" 161 ⟨"BlushCourt$Blush", "fallsBy", "(LBlushCourt$Court;I)I"⟩) ∈ zT := zq_4 231 rfl rfl
theorem zw_955 : (Cond.code ⟨"BlushCourt", "shareOf", "(I)I"⟩ prog_1_method_69_code 3 (some .int)) ∈ zT := zq_4 235 rfl rfl
theorem zw_952 : (Cond.methodLink "BlushCourt" 165 ⟨"BlushCourt", "shareOf", "(I)I"⟩) ∈ zT := zq_4 232 rfl rfl
theorem zw_954 : (Cond.instanceMethod ⟨"BlushCourt", "shareOf", "(I)I"⟩) ∈ zT := zq_4 234 rfl rfl
theorem zws_2_1 : Cond.selects "BlushCourt" ⟨"BlushCourt", "shareOf", "(I)I"⟩ ⟨"BlushCourt", "shareOf", "(I)I"⟩ ∈ zT := zq_s (q := (⟨"BlushCourt", "shareOf", "(I)I"⟩, 13)) (List.mem_append_right _ (List.mem_append_left _ (List.mem_of_getElem? (i := 1) rfl)))
theorem zw_959 : (Cond.code ⟨"BlushCourt$Court", "touching", "(I)I"⟩ prog_5_method_6_code 4 (some .int)) ∈ zT := zq_4 239 rfl rfl
theorem zw_956 : (Cond.methodLink "BlushCourt" 169 ⟨"BlushCourt$Court", "touching", "(I)I"⟩) ∈ zT := zq_4 236 rfl rfl
theorem zw_957 : (Cond.instanceMethod ⟨"BlushCourt$Court", "touching", "(I)I"⟩) ∈ zT := zq_4 237 rfl rfl
theorem zw_958 : (Cond.selects "BlushCourt$Court" ⟨"BlushCourt$Court", "touching", "(I)I"⟩ ⟨"BlushCourt$Court", "touching", "(I)I"⟩) ∈ zT := zq_4 238 rfl rfl
theorem zw_963 : (Cond.code ⟨"BlushCourt", "foundOut", "(I)I"⟩ prog_1_method_70_code 4 (some .int)) ∈ zT := zq_5 3 rfl rfl
theorem zw_960 : (Cond.methodLink "BlushCourt" 172 ⟨"BlushCourt", "foundOut", "(I)I"⟩) ∈ zT := zq_5 0 rfl rfl
theorem zw_962 : (Cond.instanceMethod ⟨"BlushCourt", "foundOut", "(I)I"⟩) ∈ zT := zq_5 2 rfl rfl
theorem zws_2_2 : Cond.selects "BlushCourt" ⟨"BlushCourt", "foundOut", "(I)I"⟩ ⟨"BlushCourt", "foundOut", "(I)I"⟩ ∈ zT := zq_s (q := (⟨"BlushCourt", "foundOut", "(I)I"⟩, 13)) (List.mem_append_right _ (List.mem_append_left _ (List.mem_of_getElem? (i := 2) rfl)))
theorem zw_994 : (Cond.code ⟨"BlushCourt", "needThing", "(I)V"⟩ prog_1_method_62_code 2 (none : Option Jvm.ClassFile.FieldType)) ∈ zT := zq_5 34 rfl rfl
theorem zw_991 : (Cond.methodLink "BlushCourt" 180 ⟨"BlushCourt", "needThing", "(I)V"⟩) ∈ zT := zq_5 31 rfl rfl
theorem zw_993 : (Cond.instanceMethod ⟨"BlushCourt", "needThing", "(I)V"⟩) ∈ zT := zq_5 33 rfl rfl
theorem zws_2_3 : Cond.selects "BlushCourt" ⟨"BlushCourt", "needThing", "(I)V"⟩ ⟨"BlushCourt", "needThing", "(I)V"⟩ ∈ zT := zq_s (q := (⟨"BlushCourt", "needThing", "(I)V"⟩, 13)) (List.mem_append_right _ (List.mem_append_left _ (List.mem_of_getElem? (i := 3) rfl)))
theorem zw_191 : (Cond.fieldLinkNest "BlushCourt" 183 "BlushCourt$Court" "weight" "[I" "BlushCourt") ∈ zT := zq_1 191 rfl rfl
theorem zw_194 : (Cond.fieldLinkNest "BlushCourt" 186 "BlushCourt$Court" "touches" "[I" "BlushCourt") ∈ zT := zq_1 194 rfl rfl
theorem zw_221 : (Cond.fieldLinkNest "BlushCourt" 189 "BlushCourt$Court" "so" "I" "BlushCourt") ∈ zT := zq_1 221 rfl rfl
theorem zw_999 : (Cond.code ⟨"BlushCourt$Court", "leaning", "(I)I"⟩ prog_5_method_7_code 4 (some .int)) ∈ zT := zq_5 39 rfl rfl
theorem zw_996 : (Cond.methodLink "BlushCourt" 192 ⟨"BlushCourt$Court", "leaning", "(I)I"⟩) ∈ zT := zq_5 36 rfl rfl
theorem zw_997 : (Cond.instanceMethod ⟨"BlushCourt$Court", "leaning", "(I)I"⟩) ∈ zT := zq_5 37 rfl rfl
theorem zw_998 : (Cond.selects "BlushCourt$Court" ⟨"BlushCourt$Court", "leaning", "(I)I"⟩ ⟨"BlushCourt$Court", "leaning", "(I)I"⟩) ∈ zT := zq_5 38 rfl rfl
theorem zw_389 : (Cond.fieldLink "BlushCourt" 56 "BlushCourt" "worlds" "LBlushCourt$Worlds;") ∈ zT := zq_2 149 rfl rfl
theorem zw_1003 : (Cond.code ⟨"BlushCourt$Worlds", "knownBy", "(LBlushCourt$Blush;LBlushCourt$Court;I)I"⟩ prog_12_method_11_code 8 (some .int)) ∈ zT := zq_5 43 rfl rfl
theorem zw_1000 : (Cond.methodLink "BlushCourt" 195 ⟨"BlushCourt$Worlds", "knownBy", "(LBlushCourt$Blush;LBlushCourt$Court;I)I"⟩) ∈ zT := zq_5 40 rfl rfl
theorem zw_1001 : (Cond.instanceMethod ⟨"BlushCourt$Worlds", "knownBy", "(LBlushCourt$Blush;LBlushCourt$Court;I)I"⟩) ∈ zT := zq_5 41 rfl rfl
theorem zw_1002 : (Cond.selects "BlushCourt$Worlds" ⟨"BlushCourt$Worlds", "knownBy", "(LBlushCourt$Blush;LBlushCourt$Court;I)I"⟩ ⟨"BlushCourt$Worlds", "knownBy", "(LBlushCourt$Blush;LBlushCourt$Court;I)I"⟩) ∈ zT := zq_5 42 rfl rfl
theorem zw_1023 : (Cond.code ⟨"BlushCourt", "needQuestion", "(I)V"⟩ prog_1_method_63_code 2 (none : Option Jvm.ClassFile.FieldType)) ∈ zT := zq_5 63 rfl rfl
theorem zw_1020 : (Cond.methodLink "BlushCourt" 201 ⟨"BlushCourt", "needQuestion", "(I)V"⟩) ∈ zT := zq_5 60 rfl rfl
theorem zw_1022 : (Cond.instanceMethod ⟨"BlushCourt", "needQuestion", "(I)V"⟩) ∈ zT := zq_5 62 rfl rfl
theorem zws_2_5 : Cond.selects "BlushCourt" ⟨"BlushCourt", "needQuestion", "(I)V"⟩ ⟨"BlushCourt", "needQuestion", "(I)V"⟩ ∈ zT := zq_s (q := (⟨"BlushCourt", "needQuestion", "(I)V"⟩, 13)) (List.mem_append_right _ (List.mem_append_left _ (List.mem_of_getElem? (i := 5) rfl)))
theorem zw_198 : (Cond.fieldLinkNest "BlushCourt" 204 "BlushCourt$Court" "asks" "[I" "BlushCourt") ∈ zT := zq_1 198 rfl rfl
theorem zw_1035 : (Cond.code ⟨"BlushCourt", "needWoman", "(I)V"⟩ prog_1_method_64_code 2 (none : Option Jvm.ClassFile.FieldType)) ∈ zT := zq_5 75 rfl rfl
theorem zw_1032 : (Cond.methodLink "BlushCourt" 207 ⟨"BlushCourt", "needWoman", "(I)V"⟩) ∈ zT := zq_5 72 rfl rfl
theorem zw_1034 : (Cond.instanceMethod ⟨"BlushCourt", "needWoman", "(I)V"⟩) ∈ zT := zq_5 74 rfl rfl
theorem zws_2_6 : Cond.selects "BlushCourt" ⟨"BlushCourt", "needWoman", "(I)V"⟩ ⟨"BlushCourt", "needWoman", "(I)V"⟩ ∈ zT := zq_s (q := (⟨"BlushCourt", "needWoman", "(I)V"⟩, 13)) (List.mem_append_right _ (List.mem_append_left _ (List.mem_of_getElem? (i := 6) rfl)))
theorem zw_203 : (Cond.fieldLinkNest "BlushCourt" 210 "BlushCourt$Court" "sharp" "[I" "BlushCourt") ∈ zT := zq_1 203 rfl rfl
theorem zw_1047 : (Cond.code ⟨"BlushCourt", "needPlace", "(I)V"⟩ prog_1_method_65_code 2 (none : Option Jvm.ClassFile.FieldType)) ∈ zT := zq_5 87 rfl rfl
theorem zw_1044 : (Cond.methodLink "BlushCourt" 213 ⟨"BlushCourt", "needPlace", "(I)V"⟩) ∈ zT := zq_5 84 rfl rfl
theorem zw_1046 : (Cond.instanceMethod ⟨"BlushCourt", "needPlace", "(I)V"⟩) ∈ zT := zq_5 86 rfl rfl
theorem zws_2_7 : Cond.selects "BlushCourt" ⟨"BlushCourt", "needPlace", "(I)V"⟩ ⟨"BlushCourt", "needPlace", "(I)V"⟩ ∈ zT := zq_s (q := (⟨"BlushCourt", "needPlace", "(I)V"⟩, 13)) (List.mem_append_right _ (List.mem_append_left _ (List.mem_of_getElem? (i := 7) rfl)))
theorem zw_137 : (Cond.fieldLinkNest "BlushCourt" 216 "BlushCourt$Row" "standing" "[I" "BlushCourt") ∈ zT := zq_1 137 rfl rfl
theorem zw_1060 : (Cond.code ⟨"BlushCourt$History", "remember", "(LBlushCourt$Court;)V"⟩ prog_7_method_2_code 3 (none : Option Jvm.ClassFile.FieldType)) ∈ zT := zq_5 100 rfl rfl
theorem zw_1057 : (Cond.methodLink "BlushCourt" 221 ⟨"BlushCourt$History", "remember", "(LBlushCourt$Court;)V"⟩) ∈ zT := zq_5 97 rfl rfl
theorem zw_1058 : (Cond.instanceMethod ⟨"BlushCourt$History", "remember", "(LBlushCourt$Court;)V"⟩) ∈ zT := zq_5 98 rfl rfl
theorem zw_1059 : (Cond.selects "BlushCourt$History" ⟨"BlushCourt$History", "remember", "(LBlushCourt$Court;)V"⟩ ⟨"BlushCourt$History", "remember", "(LBlushCourt$Court;)V"⟩) ∈ zT := zq_5 99 rfl rfl
theorem zw_1065 : (Cond.code ⟨"BlushCourt$Blush", "live", "(LBlushCourt$Court;I)I"⟩ prog_3_method_13_code 5 (some .int)) ∈ zT := zq_5 105 rfl rfl
theorem zw_1062 : (Cond.methodLink "BlushCourt" 224 ⟨"BlushCourt$Blush", "live", "(LBlushCourt$Court;I)I"⟩) ∈ zT := zq_5 102 rfl rfl
theorem zw_1063 : (Cond.instanceMethod ⟨"BlushCourt$Blush", "live", "(LBlushCourt$Court;I)I"⟩) ∈ zT := zq_5 103 rfl rfl
theorem zw_1064 : (Cond.selects "BlushCourt$Blush" ⟨"BlushCourt$Blush", "live", "(LBlushCourt$Court;I)I"⟩ ⟨"BlushCourt$Blush", "live", "(LBlushCourt$Court;I)I"⟩) ∈ zT := zq_5 104 rfl rfl
theorem zw_1098 : (Cond.methodLink "BlushCourt" 227 ⟨"BlushCourt$Blush", "utter", "(LBlushCourt$Court;II)I"⟩) ∈ zT := zq_5 138 rfl rfl
theorem zw_1109 : (Cond.code ⟨"BlushCourt", "needTwo", "(II)V"⟩ prog_1_method_61_code 3 (none : Option Jvm.ClassFile.FieldType)) ∈ zT := zq_5 149 rfl rfl
theorem zw_1106 : (Cond.methodLink "BlushCourt" 231 ⟨"BlushCourt", "needTwo", "(II)V"⟩) ∈ zT := zq_5 146 rfl rfl
theorem zw_1108 : (Cond.instanceMethod ⟨"BlushCourt", "needTwo", "(II)V"⟩) ∈ zT := zq_5 148 rfl rfl
theorem zws_2_9 : Cond.selects "BlushCourt" ⟨"BlushCourt", "needTwo", "(II)V"⟩ ⟨"BlushCourt", "needTwo", "(II)V"⟩ ∈ zT := zq_s (q := (⟨"BlushCourt", "needTwo", "(II)V"⟩, 13)) (List.mem_append_right _ (List.mem_append_left _ (List.mem_of_getElem? (i := 9) rfl)))
theorem zw_1114 : (Cond.code ⟨"BlushCourt$Row", "swap", "(II)V"⟩ prog_10_method_3_code 4 (none : Option Jvm.ClassFile.FieldType)) ∈ zT := zq_5 154 rfl rfl
theorem zw_1111 : (Cond.methodLink "BlushCourt" 235 ⟨"BlushCourt$Row", "swap", "(II)V"⟩) ∈ zT := zq_5 151 rfl rfl
theorem zw_1112 : (Cond.instanceMethod ⟨"BlushCourt$Row", "swap", "(II)V"⟩) ∈ zT := zq_5 152 rfl rfl
theorem zw_1113 : (Cond.selects "BlushCourt$Row" ⟨"BlushCourt$Row", "swap", "(II)V"⟩ ⟨"BlushCourt$Row", "swap", "(II)V"⟩) ∈ zT := zq_5 153 rfl rfl
theorem zw_1123 : (Cond.methodLink "BlushCourt" 240 ⟨"java/lang/Math", "min", "(II)I"⟩) ∈ zT := zq_5 163 rfl rfl
theorem zw_227 : (Cond.fieldLinkNest "BlushCourt" 248 "BlushCourt$Court" "heat" "I" "BlushCourt") ∈ zT := zq_1 227 rfl rfl
theorem zw_1149 : (Cond.code ⟨"BlushCourt$Court", "allThings", "()I"⟩ prog_5_method_4_code 1 (some .int)) ∈ zT := zq_5 189 rfl rfl
theorem zw_1146 : (Cond.methodLink "BlushCourt" 251 ⟨"BlushCourt$Court", "allThings", "()I"⟩) ∈ zT := zq_5 186 rfl rfl
theorem zw_1147 : (Cond.instanceMethod ⟨"BlushCourt$Court", "allThings", "()I"⟩) ∈ zT := zq_5 187 rfl rfl
theorem zw_1148 : (Cond.selects "BlushCourt$Court" ⟨"BlushCourt$Court", "allThings", "()I"⟩ ⟨"BlushCourt$Court", "allThings", "()I"⟩) ∈ zT := zq_5 188 rfl rfl
theorem zw_571 : (Cond.methodLink "BlushCourt" 256 ⟨"BlushCourt$Blush", "raise", "(LBlushCourt$Court;II)V"⟩) ∈ zT := zq_3 91 rfl rfl
theorem zw_311 : (Cond.fieldLinkNest "BlushCourt" 260 "BlushCourt$Blush" "risen" "[I" "BlushCourt") ∈ zT := zq_2 71 rfl rfl
theorem zw_145 : (Cond.fieldLinkNest "BlushCourt" 263 "BlushCourt$Row" "count" "I" "BlushCourt") ∈ zT := zq_1 145 rfl rfl
theorem zw_1172 : (Cond.methodLink "BlushCourt" 266 ⟨"BlushCourt$Blush", "isSeen", "(LBlushCourt$Court;II)Z"⟩) ∈ zT := zq_5 212 rfl rfl
theorem zw_1183 : (Cond.code ⟨"BlushCourt$Blush", "givesAway", "(I)Z"⟩ prog_3_method_8_code 2 (some .boolean)) ∈ zT := zq_5 223 rfl rfl
theorem zw_1180 : (Cond.methodLink "BlushCourt" 270 ⟨"BlushCourt$Blush", "givesAway", "(I)Z"⟩) ∈ zT := zq_5 220 rfl rfl
theorem zw_1181 : (Cond.instanceMethod ⟨"BlushCourt$Blush", "givesAway", "(I)Z"⟩) ∈ zT := zq_5 221 rfl rfl
theorem zw_1182 : (Cond.selects "BlushCourt$Blush" ⟨"BlushCourt$Blush", "givesAway", "(I)Z"⟩ ⟨"BlushCourt$Blush", "givesAway", "(I)Z"⟩) ∈ zT := zq_5 222 rfl rfl
theorem zw_1191 : (Cond.methodLink "BlushCourt" 274 ⟨"BlushCourt", "readBy", "(II)I"⟩) ∈ zT := zq_5 231 rfl rfl
theorem zw_461 : (Cond.code ⟨"BlushCourt$Row", "allShades", "()I"⟩ prog_10_method_5_code 3 (some .int)) ∈ zT := zq_2 221 rfl rfl
theorem zw_458 : (Cond.methodLink "BlushCourt" 277 ⟨"BlushCourt$Row", "allShades", "()I"⟩) ∈ zT := zq_2 218 rfl rfl
theorem zw_459 : (Cond.instanceMethod ⟨"BlushCourt$Row", "allShades", "()I"⟩) ∈ zT := zq_2 219 rfl rfl
theorem zw_460 : (Cond.selects "BlushCourt$Row" ⟨"BlushCourt$Row", "allShades", "()I"⟩ ⟨"BlushCourt$Row", "allShades", "()I"⟩) ∈ zT := zq_2 220 rfl rfl
theorem zw_462 : (Cond.methodLink "BlushCourt" 280 ⟨"BlushCourt$Blush", "fall", "(LBlushCourt$Court;)V"⟩) ∈ zT := zq_2 222 rfl rfl
theorem zw_1202 : (Cond.code ⟨"BlushCourt", "fittingWorlds", "()J"⟩ prog_1_method_68_code 2 (some .long)) ∈ zT := zq_6 2 rfl rfl
theorem zw_1199 : (Cond.methodLink "BlushCourt" 283 ⟨"BlushCourt", "fittingWorlds", "()J"⟩) ∈ zT := zq_5 239 rfl rfl
theorem zw_1201 : (Cond.instanceMethod ⟨"BlushCourt", "fittingWorlds", "()J"⟩) ∈ zT := zq_6 1 rfl rfl
theorem zws_2_10 : Cond.selects "BlushCourt" ⟨"BlushCourt", "fittingWorlds", "()J"⟩ ⟨"BlushCourt", "fittingWorlds", "()J"⟩ ∈ zT := zq_s (q := (⟨"BlushCourt", "fittingWorlds", "()J"⟩, 13)) (List.mem_append_right _ (List.mem_append_left _ (List.mem_of_getElem? (i := 10) rfl)))
theorem zw_29 : (Cond.initialized "java/lang/Long") ∈ zT := zq_1 29 rfl rfl
theorem zw_1224 : (Cond.code ⟨"java/lang/Long", "bitCount", "(J)I"⟩ prog_22_method_50_code 2 (some .int)) ∈ zT := zq_6 24 rfl rfl
theorem zw_1222 : (Cond.methodLink "BlushCourt" 287 ⟨"java/lang/Long", "bitCount", "(J)I"⟩) ∈ zT := zq_6 22 rfl rfl
theorem zw_1223 : (Cond.static ⟨"java/lang/Long", "bitCount", "(J)I"⟩) ∈ zT := zq_6 23 rfl rfl
theorem zw_1235 : (Cond.methodLink "BlushCourt" 293 ⟨"BlushCourt$Court", "worldCount", "()I"⟩) ∈ zT := zq_6 35 rfl rfl
theorem zw_211 : (Cond.fieldLinkNest "BlushCourt" 296 "BlushCourt$Court" "questions" "I" "BlushCourt") ∈ zT := zq_1 211 rfl rfl
theorem zw_1253 : (Cond.code ⟨"BlushCourt$Worlds", "greatestPart", "(LBlushCourt$Blush;LBlushCourt$Court;IJ)I"⟩ prog_12_method_7_code 9 (some .int)) ∈ zT := zq_6 53 rfl rfl
theorem zw_1250 : (Cond.methodLink "BlushCourt" 299 ⟨"BlushCourt$Worlds", "greatestPart", "(LBlushCourt$Blush;LBlushCourt$Court;IJ)I"⟩) ∈ zT := zq_6 50 rfl rfl
theorem zw_1251 : (Cond.instanceMethod ⟨"BlushCourt$Worlds", "greatestPart", "(LBlushCourt$Blush;LBlushCourt$Court;IJ)I"⟩) ∈ zT := zq_6 51 rfl rfl
theorem zw_1252 : (Cond.selects "BlushCourt$Worlds" ⟨"BlushCourt$Worlds", "greatestPart", "(LBlushCourt$Blush;LBlushCourt$Court;IJ)I"⟩ ⟨"BlushCourt$Worlds", "greatestPart", "(LBlushCourt$Blush;LBlushCourt$Court;IJ)I"⟩) ∈ zT := zq_6 52 rfl rfl
theorem zw_500 : (Cond.code ⟨"BlushCourt$Worlds", "hidden", "(LBlushCourt$Blush;LBlushCourt$Court;)I"⟩ prog_12_method_10_code 6 (some .int)) ∈ zT := zq_3 20 rfl rfl
theorem zw_497 : (Cond.methodLink "BlushCourt" 303 ⟨"BlushCourt$Worlds", "hidden", "(LBlushCourt$Blush;LBlushCourt$Court;)I"⟩) ∈ zT := zq_3 17 rfl rfl
theorem zw_498 : (Cond.instanceMethod ⟨"BlushCourt$Worlds", "hidden", "(LBlushCourt$Blush;LBlushCourt$Court;)I"⟩) ∈ zT := zq_3 18 rfl rfl
theorem zw_499 : (Cond.selects "BlushCourt$Worlds" ⟨"BlushCourt$Worlds", "hidden", "(LBlushCourt$Blush;LBlushCourt$Court;)I"⟩ ⟨"BlushCourt$Worlds", "hidden", "(LBlushCourt$Blush;LBlushCourt$Court;)I"⟩) ∈ zT := zq_3 19 rfl rfl
theorem zw_1265 : (Cond.code ⟨"BlushCourt$Worlds", "partsOf", "(LBlushCourt$Blush;LBlushCourt$Court;I)I"⟩ prog_12_method_8_code 6 (some .int)) ∈ zT := zq_6 65 rfl rfl
theorem zw_1262 : (Cond.methodLink "BlushCourt" 307 ⟨"BlushCourt$Worlds", "partsOf", "(LBlushCourt$Blush;LBlushCourt$Court;I)I"⟩) ∈ zT := zq_6 62 rfl rfl
theorem zw_1263 : (Cond.instanceMethod ⟨"BlushCourt$Worlds", "partsOf", "(LBlushCourt$Blush;LBlushCourt$Court;I)I"⟩) ∈ zT := zq_6 63 rfl rfl
theorem zw_1264 : (Cond.selects "BlushCourt$Worlds" ⟨"BlushCourt$Worlds", "partsOf", "(LBlushCourt$Blush;LBlushCourt$Court;I)I"⟩ ⟨"BlushCourt$Worlds", "partsOf", "(LBlushCourt$Blush;LBlushCourt$Court;I)I"⟩) ∈ zT := zq_6 64 rfl rfl
theorem zw_1276 : (Cond.code ⟨"BlushCourt", "touchedBy", "(I)I"⟩ prog_1_method_71_code 4 (some .int)) ∈ zT := zq_6 76 rfl rfl
theorem zw_1273 : (Cond.methodLink "BlushCourt" 310 ⟨"BlushCourt", "touchedBy", "(I)I"⟩) ∈ zT := zq_6 73 rfl rfl
theorem zw_1275 : (Cond.instanceMethod ⟨"BlushCourt", "touchedBy", "(I)I"⟩) ∈ zT := zq_6 75 rfl rfl
theorem zws_2_13 : Cond.selects "BlushCourt" ⟨"BlushCourt", "touchedBy", "(I)I"⟩ ⟨"BlushCourt", "touchedBy", "(I)I"⟩ ∈ zT := zq_s (q := (⟨"BlushCourt", "touchedBy", "(I)I"⟩, 13)) (List.mem_append_right _ (List.mem_append_left _ (List.mem_of_getElem? (i := 13) rfl)))
theorem zw_1278 : (Cond.methodLink "BlushCourt" 313 ⟨"BlushCourt$Apart", "sharedIn", "([III)I"⟩) ∈ zT := zq_6 78 rfl rfl
theorem zw_390 : (Cond.fieldLink "BlushCourt" 63 "BlushCourt" "parting" "LBlushCourt$Apart;") ∈ zT := zq_2 150 rfl rfl
theorem zw_1291 : (Cond.code ⟨"BlushCourt$Apart", "search", "(LBlushCourt$Row;I)V"⟩ prog_2_method_3_code 3 (none : Option Jvm.ClassFile.FieldType)) ∈ zT := zq_6 91 rfl rfl
theorem zw_1288 : (Cond.methodLink "BlushCourt" 317 ⟨"BlushCourt$Apart", "search", "(LBlushCourt$Row;I)V"⟩) ∈ zT := zq_6 88 rfl rfl
theorem zw_1289 : (Cond.instanceMethod ⟨"BlushCourt$Apart", "search", "(LBlushCourt$Row;I)V"⟩) ∈ zT := zq_6 89 rfl rfl
theorem zw_1290 : (Cond.selects "BlushCourt$Apart" ⟨"BlushCourt$Apart", "search", "(LBlushCourt$Row;I)V"⟩ ⟨"BlushCourt$Apart", "search", "(LBlushCourt$Row;I)V"⟩) ∈ zT := zq_6 90 rfl rfl
theorem zw_353 : (Cond.fieldLinkNest "BlushCourt" 321 "BlushCourt$Apart" "fewestChanges" "I" "BlushCourt") ∈ zT := zq_2 113 rfl rfl
theorem zw_349 : (Cond.fieldLinkNest "BlushCourt" 324 "BlushCourt$Apart" "best" "[I" "BlushCourt") ∈ zT := zq_2 109 rfl rfl
theorem zw_216 : (Cond.fieldLinkNest "BlushCourt" 327 "BlushCourt$Court" "women" "I" "BlushCourt") ∈ zT := zq_1 216 rfl rfl
theorem zw_1206 : (Cond.code ⟨"BlushCourt", "needRows", "(IIII)I"⟩ prog_1_method_67_code 8 (some .int)) ∈ zT := zq_6 6 rfl rfl
theorem zw_1203 : (Cond.methodLink "BlushCourt" 330 ⟨"BlushCourt", "needRows", "(IIII)I"⟩) ∈ zT := zq_6 3 rfl rfl
theorem zw_1205 : (Cond.instanceMethod ⟨"BlushCourt", "needRows", "(IIII)I"⟩) ∈ zT := zq_6 5 rfl rfl
theorem zws_2_11 : Cond.selects "BlushCourt" ⟨"BlushCourt", "needRows", "(IIII)I"⟩ ⟨"BlushCourt", "needRows", "(IIII)I"⟩ ∈ zT := zq_s (q := (⟨"BlushCourt", "needRows", "(IIII)I"⟩, 13)) (List.mem_append_right _ (List.mem_append_left _ (List.mem_of_getElem? (i := 11) rfl)))
theorem zw_553 : (Cond.methodLink "BlushCourt" 334 ⟨"java/lang/Integer", "bitCount", "(I)I"⟩) ∈ zT := zq_3 73 rfl rfl
theorem zw_1323 : (Cond.code ⟨"BlushCourt", "allMayBe", "(II)Z"⟩ prog_1_method_72_code 4 (some .boolean)) ∈ zT := zq_6 123 rfl rfl
theorem zw_1320 : (Cond.methodLink "BlushCourt" 338 ⟨"BlushCourt", "allMayBe", "(II)Z"⟩) ∈ zT := zq_6 120 rfl rfl
theorem zw_1322 : (Cond.instanceMethod ⟨"BlushCourt", "allMayBe", "(II)Z"⟩) ∈ zT := zq_6 122 rfl rfl
theorem zws_3_1 : Cond.selects "BlushCourt" ⟨"BlushCourt", "allMayBe", "(II)Z"⟩ ⟨"BlushCourt", "allMayBe", "(II)Z"⟩ ∈ zT := zq_s (q := (⟨"BlushCourt", "allMayBe", "(II)Z"⟩, 13)) (List.mem_append_right _ (List.mem_append_right _ (List.mem_append_left _ (List.mem_of_getElem? (i := 1) rfl))))
theorem zw_1327 : (Cond.code ⟨"BlushCourt", "shadesLeft", "(III)I"⟩ prog_1_method_73_code 10 (some .int)) ∈ zT := zq_6 127 rfl rfl
theorem zw_1324 : (Cond.methodLink "BlushCourt" 342 ⟨"BlushCourt", "shadesLeft", "(III)I"⟩) ∈ zT := zq_6 124 rfl rfl
theorem zw_1326 : (Cond.instanceMethod ⟨"BlushCourt", "shadesLeft", "(III)I"⟩) ∈ zT := zq_6 126 rfl rfl
theorem zws_3_2 : Cond.selects "BlushCourt" ⟨"BlushCourt", "shadesLeft", "(III)I"⟩ ⟨"BlushCourt", "shadesLeft", "(III)I"⟩ ∈ zT := zq_s (q := (⟨"BlushCourt", "shadesLeft", "(III)I"⟩, 13)) (List.mem_append_right _ (List.mem_append_right _ (List.mem_append_left _ (List.mem_of_getElem? (i := 2) rfl))))
theorem zw_307 : (Cond.fieldLinkNest "BlushCourt" 346 "BlushCourt$Blush" "own" "[I" "BlushCourt") ∈ zT := zq_2 67 rfl rfl
theorem zw_1343 : (Cond.methodLink "BlushCourt" 349 ⟨"BlushCourt$Blush", "ownOf", "(LBlushCourt$Court;I)I"⟩) ∈ zT := zq_6 143 rfl rfl
theorem zw_967 : (Cond.code ⟨"BlushCourt$Blush", "isFoundOut", "(LBlushCourt$Court;I)Z"⟩ prog_3_method_10_code 4 (some .boolean)) ∈ zT := zq_5 7 rfl rfl
theorem zw_964 : (Cond.methodLink "BlushCourt" 352 ⟨"BlushCourt$Blush", "isFoundOut", "(LBlushCourt$Court;I)Z"⟩) ∈ zT := zq_5 4 rfl rfl
theorem zw_965 : (Cond.instanceMethod ⟨"BlushCourt$Blush", "isFoundOut", "(LBlushCourt$Court;I)Z"⟩) ∈ zT := zq_5 5 rfl rfl
theorem zw_966 : (Cond.selects "BlushCourt$Blush" ⟨"BlushCourt$Blush", "isFoundOut", "(LBlushCourt$Court;I)Z"⟩ ⟨"BlushCourt$Blush", "isFoundOut", "(LBlushCourt$Court;I)Z"⟩) ∈ zT := zq_5 6 rfl rfl
theorem zw_305 : (Cond.fieldLinkNest "BlushCourt" 356 "BlushCourt$Blush" "weight" "[I" "BlushCourt") ∈ zT := zq_2 65 rfl rfl
theorem zw_548 : (Cond.code ⟨"BlushCourt$Blush", "wouldBePale", "(LBlushCourt$Court;)I"⟩ prog_3_method_4_code 4 (some .int)) ∈ zT := zq_3 68 rfl rfl
theorem zw_545 : (Cond.methodLink "BlushCourt" 357 ⟨"BlushCourt$Blush", "wouldBePale", "(LBlushCourt$Court;)I"⟩) ∈ zT := zq_3 65 rfl rfl
theorem zw_546 : (Cond.instanceMethod ⟨"BlushCourt$Blush", "wouldBePale", "(LBlushCourt$Court;)I"⟩) ∈ zT := zq_3 66 rfl rfl
theorem zw_547 : (Cond.selects "BlushCourt$Blush" ⟨"BlushCourt$Blush", "wouldBePale", "(LBlushCourt$Court;)I"⟩ ⟨"BlushCourt$Blush", "wouldBePale", "(LBlushCourt$Court;)I"⟩) ∈ zT := zq_3 67 rfl rfl
theorem zw_391 : (Cond.fieldLink "BlushCourt" 70 "BlushCourt" "pairing" "LBlushCourt$Couples;") ∈ zT := zq_2 151 rfl rfl
theorem zw_1361 : (Cond.code ⟨"BlushCourt$Couples", "search", "(LBlushCourt$Court;)V"⟩ prog_4_method_2_code 2 (none : Option Jvm.ClassFile.FieldType)) ∈ zT := zq_6 161 rfl rfl
theorem zw_1358 : (Cond.methodLink "BlushCourt" 361 ⟨"BlushCourt$Couples", "search", "(LBlushCourt$Court;)V"⟩) ∈ zT := zq_6 158 rfl rfl
theorem zw_1359 : (Cond.instanceMethod ⟨"BlushCourt$Couples", "search", "(LBlushCourt$Court;)V"⟩) ∈ zT := zq_6 159 rfl rfl
theorem zw_1360 : (Cond.selects "BlushCourt$Couples" ⟨"BlushCourt$Couples", "search", "(LBlushCourt$Court;)V"⟩ ⟨"BlushCourt$Couples", "search", "(LBlushCourt$Court;)V"⟩) ∈ zT := zq_6 160 rfl rfl
theorem zw_370 : (Cond.fieldLinkNest "BlushCourt" 366 "BlushCourt$Couples" "best" "[I" "BlushCourt") ∈ zT := zq_2 130 rfl rfl
theorem zw_373 : (Cond.fieldLinkNest "BlushCourt" 363 "BlushCourt$Couples" "most" "I" "BlushCourt") ∈ zT := zq_2 133 rfl rfl
theorem zw_1328 : (Cond.methodLink "BlushCourt" 367 ⟨"java/lang/Math", "max", "(II)I"⟩) ∈ zT := zq_6 128 rfl rfl
theorem zw_1388 : (Cond.code ⟨"BlushCourt", "witnessHas", "(IIII)I"⟩ prog_1_method_74_code 4 (some .int)) ∈ zT := zq_6 188 rfl rfl
theorem zw_1386 : (Cond.methodLink "BlushCourt" 370 ⟨"BlushCourt", "witnessHas", "(IIII)I"⟩) ∈ zT := zq_6 186 rfl rfl
theorem zw_1387 : (Cond.static ⟨"BlushCourt", "witnessHas", "(IIII)I"⟩) ∈ zT := zq_6 187 rfl rfl
theorem zw_1391 : (Cond.code ⟨"BlushCourt", "courtHas", "(III)I"⟩ prog_1_method_75_code 3 (some .int)) ∈ zT := zq_6 191 rfl rfl
theorem zw_1389 : (Cond.methodLink "BlushCourt" 373 ⟨"BlushCourt", "courtHas", "(III)I"⟩) ∈ zT := zq_6 189 rfl rfl
theorem zw_1390 : (Cond.static ⟨"BlushCourt", "courtHas", "(III)I"⟩) ∈ zT := zq_6 190 rfl rfl
theorem zw_1399 : (Cond.constantLong "BlushCourt" 376 (100 : Int64)) ∈ zT := zq_6 199 rfl rfl
theorem zw_1404 : (Cond.constantLong "BlushCourt" 382 (10000 : Int64)) ∈ zT := zq_6 204 rfl rfl
theorem zw_1403 : (Cond.code ⟨"BlushCourt", "waysOf", "(II)J"⟩ prog_1_method_76_code 6 (some .long)) ∈ zT := zq_6 203 rfl rfl
theorem zw_1400 : (Cond.methodLink "BlushCourt" 378 ⟨"BlushCourt", "waysOf", "(II)J"⟩) ∈ zT := zq_6 200 rfl rfl
theorem zw_1402 : (Cond.instanceMethod ⟨"BlushCourt", "waysOf", "(II)J"⟩) ∈ zT := zq_6 202 rfl rfl
theorem zws_3_4 : Cond.selects "BlushCourt" ⟨"BlushCourt", "waysOf", "(II)J"⟩ ⟨"BlushCourt", "waysOf", "(II)J"⟩ ∈ zT := zq_s (q := (⟨"BlushCourt", "waysOf", "(II)J"⟩, 13)) (List.mem_append_right _ (List.mem_append_right _ (List.mem_append_left _ (List.mem_of_getElem? (i := 4) rfl))))
theorem zw_206 : (Cond.fieldLinkNest "BlushCourt" 384 "BlushCourt$Court" "things" "I" "BlushCourt") ∈ zT := zq_1 206 rfl rfl
theorem zw_575 : (Cond.code ⟨"BlushCourt$Blush", "seeingWomen", "(LBlushCourt$Court;)I"⟩ prog_3_method_11_code 5 (some .int)) ∈ zT := zq_3 95 rfl rfl
theorem zw_572 : (Cond.methodLink "BlushCourt" 387 ⟨"BlushCourt$Blush", "seeingWomen", "(LBlushCourt$Court;)I"⟩) ∈ zT := zq_3 92 rfl rfl
theorem zw_573 : (Cond.instanceMethod ⟨"BlushCourt$Blush", "seeingWomen", "(LBlushCourt$Court;)I"⟩) ∈ zT := zq_3 93 rfl rfl
theorem zw_574 : (Cond.selects "BlushCourt$Blush" ⟨"BlushCourt$Blush", "seeingWomen", "(LBlushCourt$Court;)I"⟩ ⟨"BlushCourt$Blush", "seeingWomen", "(LBlushCourt$Court;)I"⟩) ∈ zT := zq_3 94 rfl rfl
theorem zw_1415 : (Cond.code ⟨"BlushCourt", "needAhead", "(I)V"⟩ prog_1_method_66_code 2 (none : Option Jvm.ClassFile.FieldType)) ∈ zT := zq_6 215 rfl rfl
theorem zw_1412 : (Cond.methodLink "BlushCourt" 390 ⟨"BlushCourt", "needAhead", "(I)V"⟩) ∈ zT := zq_6 212 rfl rfl
theorem zw_1414 : (Cond.instanceMethod ⟨"BlushCourt", "needAhead", "(I)V"⟩) ∈ zT := zq_6 214 rfl rfl
theorem zws_3_5 : Cond.selects "BlushCourt" ⟨"BlushCourt", "needAhead", "(I)V"⟩ ⟨"BlushCourt", "needAhead", "(I)V"⟩ ∈ zT := zq_s (q := (⟨"BlushCourt", "needAhead", "(I)V"⟩, 13)) (List.mem_append_right _ (List.mem_append_right _ (List.mem_append_left _ (List.mem_of_getElem? (i := 5) rfl))))
theorem zw_1426 : (Cond.code ⟨"BlushCourt$Row", "redOnes", "()I"⟩ prog_10_method_6_code 3 (some .int)) ∈ zT := zq_6 226 rfl rfl
theorem zw_1423 : (Cond.methodLink "BlushCourt" 393 ⟨"BlushCourt$Row", "redOnes", "()I"⟩) ∈ zT := zq_6 223 rfl rfl
theorem zw_1424 : (Cond.instanceMethod ⟨"BlushCourt$Row", "redOnes", "()I"⟩) ∈ zT := zq_6 224 rfl rfl
theorem zw_1425 : (Cond.selects "BlushCourt$Row" ⟨"BlushCourt$Row", "redOnes", "()I"⟩ ⟨"BlushCourt$Row", "redOnes", "()I"⟩) ∈ zT := zq_6 225 rfl rfl
theorem zw_240 : (Cond.fieldLinkNest "BlushCourt" 396 "BlushCourt$Court" "seed" "I" "BlushCourt") ∈ zT := zq_2 0 rfl rfl
theorem zw_188 : (Cond.fieldLinkNest "BlushCourt" 399 "BlushCourt$Court" "log" "LBlushCourt$Log;" "BlushCourt") ∈ zT := zq_1 188 rfl rfl
theorem zw_169 : (Cond.fieldLinkNest "BlushCourt" 403 "BlushCourt$Log" "count" "I" "BlushCourt") ∈ zT := zq_1 169 rfl rfl
theorem zw_1444 : (Cond.code ⟨"BlushCourt$Log", "read", "(II)I"⟩ prog_9_method_4_code 5 (some .int)) ∈ zT := zq_7 4 rfl rfl
theorem zw_1441 : (Cond.methodLink "BlushCourt" 406 ⟨"BlushCourt$Log", "read", "(II)I"⟩) ∈ zT := zq_7 1 rfl rfl
theorem zw_1442 : (Cond.instanceMethod ⟨"BlushCourt$Log", "read", "(II)I"⟩) ∈ zT := zq_7 2 rfl rfl
theorem zw_1443 : (Cond.selects "BlushCourt$Log" ⟨"BlushCourt$Log", "read", "(II)I"⟩ ⟨"BlushCourt$Log", "read", "(II)I"⟩) ∈ zT := zq_7 3 rfl rfl
theorem zw_598 : (Cond.code ⟨"BlushCourt$History", "undoInto", "(LBlushCourt$Court;)Z"⟩ prog_7_method_3_code 4 (some .boolean)) ∈ zT := zq_3 118 rfl rfl
theorem zw_595 : (Cond.methodLink "BlushCourt" 410 ⟨"BlushCourt$History", "undoInto", "(LBlushCourt$Court;)Z"⟩) ∈ zT := zq_3 115 rfl rfl
theorem zw_596 : (Cond.instanceMethod ⟨"BlushCourt$History", "undoInto", "(LBlushCourt$Court;)Z"⟩) ∈ zT := zq_3 116 rfl rfl
theorem zw_597 : (Cond.selects "BlushCourt$History" ⟨"BlushCourt$History", "undoInto", "(LBlushCourt$Court;)Z"⟩ ⟨"BlushCourt$History", "undoInto", "(LBlushCourt$Court;)Z"⟩) ∈ zT := zq_3 117 rfl rfl
theorem zw_386 : (Cond.fieldLink "BlushCourt" 36 "BlushCourt" "kept" "LBlushCourt$Court;") ∈ zT := zq_2 146 rfl rfl
theorem zw_383 : (Cond.fieldLink "BlushCourt" 23 "BlushCourt" "keptLaw" "LBlushCourt$Law;") ∈ zT := zq_2 143 rfl rfl
theorem zw_393 : (Cond.fieldLink "BlushCourt" 78 "BlushCourt" "imaged" "Z") ∈ zT := zq_2 153 rfl rfl
theorem zw_238 : (Cond.fieldLinkNest "BlushCourt" 414 "BlushCourt$Court" "moment" "I" "BlushCourt") ∈ zT := zq_1 238 rfl rfl
theorem zw_285 : (Cond.fieldLinkNest "BlushCourt" 417 "BlushCourt$History" "count" "I" "BlushCourt") ∈ zT := zq_2 45 rfl rfl
theorem zw_935 : (Cond.classLink "BlushCourt" 418 "java/lang/IndexOutOfBoundsException") ∈ zT := zq_4 215 rfl rfl
theorem zw_24 : (Cond.initialized "java/lang/IndexOutOfBoundsException") ∈ zT := zq_1 24 rfl rfl
theorem zw_1207 : (Cond.methodLink "BlushCourt" 433 ⟨"BlushCourt$Tape", "told", "(II)I"⟩) ∈ zT := zq_6 7 rfl rfl
theorem zw_1215 : (Cond.code ⟨"BlushCourt$Worlds", "fitting", "(LBlushCourt$Blush;LBlushCourt$Court;LBlushCourt$Tape;I)J"⟩ prog_12_method_5_code 11 (some .long)) ∈ zT := zq_6 15 rfl rfl
theorem zw_1212 : (Cond.methodLink "BlushCourt" 438 ⟨"BlushCourt$Worlds", "fitting", "(LBlushCourt$Blush;LBlushCourt$Court;LBlushCourt$Tape;I)J"⟩) ∈ zT := zq_6 12 rfl rfl
theorem zw_1213 : (Cond.instanceMethod ⟨"BlushCourt$Worlds", "fitting", "(LBlushCourt$Blush;LBlushCourt$Court;LBlushCourt$Tape;I)J"⟩) ∈ zT := zq_6 13 rfl rfl
theorem zw_1214 : (Cond.selects "BlushCourt$Worlds" ⟨"BlushCourt$Worlds", "fitting", "(LBlushCourt$Blush;LBlushCourt$Court;LBlushCourt$Tape;I)J"⟩ ⟨"BlushCourt$Worlds", "fitting", "(LBlushCourt$Blush;LBlushCourt$Court;LBlushCourt$Tape;I)J"⟩) ∈ zT := zq_6 14 rfl rfl
theorem zw_1277 : (Cond.methodLink "BlushCourt" 442 ⟨"BlushCourt$Court", "weighs", "(III)I"⟩) ∈ zT := zq_6 77 rfl rfl
theorem zw_231 : (Cond.fieldLinkNest "BlushCourt" 445 "BlushCourt$Court" "lies" "I" "BlushCourt") ∈ zT := zq_1 231 rfl rfl
theorem zw_1465 : (Cond.fieldLink "BlushCourtModel" 3 "BlushCourtModel" "thrown" "I") ∈ zT := zq_7 25 rfl rfl
theorem zw_1492 : (Cond.lays "BlushCourtModel" "BlushCourtModel" "thrown" "I") ∈ zT := zq_7 52 rfl rfl
theorem zw_1494 : (Cond.laysFinal "BlushCourtModel" "BlushCourtModel" "world" "[I") ∈ zT := zq_7 54 rfl rfl
theorem zw_1496 : (Cond.laysFinal "BlushCourtModel" "BlushCourtModel" "image" "[I") ∈ zT := zq_7 56 rfl rfl
theorem zw_1498 : (Cond.laysFinal "BlushCourtModel" "BlushCourtModel" "earlier" "[I") ∈ zT := zq_7 58 rfl rfl
theorem zw_1500 : (Cond.laysFinal "BlushCourtModel" "BlushCourtModel" "trial" "[I") ∈ zT := zq_7 60 rfl rfl
theorem zw_1502 : (Cond.laysFinal "BlushCourtModel" "BlushCourtModel" "acts" "[I") ∈ zT := zq_7 62 rfl rfl
theorem zw_1504 : (Cond.lays "BlushCourtModel" "BlushCourtModel" "hasImage" "Z") ∈ zT := zq_7 64 rfl rfl
theorem zw_1506 : (Cond.lays "BlushCourtModel" "BlushCourtModel" "remembered" "I") ∈ zT := zq_7 66 rfl rfl
theorem zw_1508 : (Cond.laysFinal "BlushCourtModel" "BlushCourtModel" "tape" "[B") ∈ zT := zq_7 68 rfl rfl
theorem zw_1510 : (Cond.lays "BlushCourtModel" "BlushCourtModel" "taped" "I") ∈ zT := zq_7 70 rfl rfl
theorem zw_1512 : (Cond.lays "BlushCourtModel" "BlushCourtModel" "point" "I") ∈ zT := zq_7 72 rfl rfl
theorem zw_1514 : (Cond.lays "BlushCourtModel" "BlushCourtModel" "end" "I") ∈ zT := zq_7 74 rfl rfl
theorem zw_1516 : (Cond.lays "BlushCourtModel" "BlushCourtModel" "begin" "I") ∈ zT := zq_7 76 rfl rfl
theorem zw_1518 : (Cond.lays "BlushCourtModel" "BlushCourtModel" "deep" "I") ∈ zT := zq_7 78 rfl rfl
theorem zw_1520 : (Cond.lays "BlushCourtModel" "BlushCourtModel" "faultAt" "I") ∈ zT := zq_7 80 rfl rfl
theorem zw_1522 : (Cond.laysFinal "BlushCourtModel" "BlushCourtModel" "five" "[I") ∈ zT := zq_7 82 rfl rfl
theorem zw_1524 : (Cond.lays "BlushCourtModel" "BlushCourtModel" "codes" "I") ∈ zT := zq_7 84 rfl rfl
theorem zw_1526 : (Cond.laysFinal "BlushCourtModel" "BlushCourtModel" "value" "[I") ∈ zT := zq_7 86 rfl rfl
theorem zw_1528 : (Cond.laysFinal "BlushCourtModel" "BlushCourtModel" "rise" "[I") ∈ zT := zq_7 88 rfl rfl
theorem zw_1530 : (Cond.laysFinal "BlushCourtModel" "BlushCourtModel" "fall" "[I") ∈ zT := zq_7 90 rfl rfl
theorem zw_1532 : (Cond.laysFinal "BlushCourtModel" "BlushCourtModel" "risen" "[I") ∈ zT := zq_7 92 rfl rfl
theorem zw_1534 : (Cond.laysFinal "BlushCourtModel" "BlushCourtModel" "fitting" "[Z") ∈ zT := zq_7 94 rfl rfl
theorem zw_1536 : (Cond.laysFinal "BlushCourtModel" "BlushCourtModel" "mustHave" "[Z") ∈ zT := zq_7 96 rfl rfl
theorem zw_1538 : (Cond.laysFinal "BlushCourtModel" "BlushCourtModel" "row" "[I") ∈ zT := zq_7 98 rfl rfl
theorem zw_1540 : (Cond.laysFinal "BlushCourtModel" "BlushCourtModel" "best" "[I") ∈ zT := zq_7 100 rfl rfl
theorem zw_1542 : (Cond.laysFinal "BlushCourtModel" "BlushCourtModel" "unlikely" "[I") ∈ zT := zq_7 102 rfl rfl
theorem zw_1544 : (Cond.laysFinal "BlushCourtModel" "BlushCourtModel" "ways" "[J") ∈ zT := zq_7 104 rfl rfl
theorem zw_1471 : (Cond.fieldLink "BlushCourtModel" 71 "BlushCourtModel" "hasImage" "Z") ∈ zT := zq_7 31 rfl rfl
theorem zw_1467 : (Cond.fieldLink "BlushCourtModel" 17 "BlushCourtModel" "image" "[I") ∈ zT := zq_7 27 rfl rfl
theorem zw_1466 : (Cond.fieldLink "BlushCourtModel" 13 "BlushCourtModel" "world" "[I") ∈ zT := zq_7 26 rfl rfl
theorem zw_1472 : (Cond.fieldLink "BlushCourtModel" 75 "BlushCourtModel" "remembered" "I") ∈ zT := zq_7 32 rfl rfl
theorem zw_1470 : (Cond.fieldLink "BlushCourtModel" 26 "BlushCourtModel" "acts" "[I") ∈ zT := zq_7 30 rfl rfl
theorem zw_1469 : (Cond.fieldLink "BlushCourtModel" 23 "BlushCourtModel" "trial" "[I") ∈ zT := zq_7 29 rfl rfl
theorem zw_12 : (Cond.initialized "BlushCourtModel") ∈ zT := zq_1 12 rfl rfl
theorem zw_1641 : (Cond.code ⟨"BlushCourtModel", "at", "(II)I"⟩ prog_14_method_16_code 2 (some .int)) ∈ zT := zq_7 201 rfl rfl
theorem zw_1639 : (Cond.methodLink "BlushCourtModel" 78 ⟨"BlushCourtModel", "at", "(II)I"⟩) ∈ zT := zq_7 199 rfl rfl
theorem zw_1640 : (Cond.static ⟨"BlushCourtModel", "at", "(II)I"⟩) ∈ zT := zq_7 200 rfl rfl
theorem zw_1662 : (Cond.code ⟨"BlushCourtModel", "thingAt", "(II)I"⟩ prog_14_method_18_code 2 (some .int)) ∈ zT := zq_7 222 rfl rfl
theorem zw_1660 : (Cond.methodLink "BlushCourtModel" 82 ⟨"BlushCourtModel", "thingAt", "(II)I"⟩) ∈ zT := zq_7 220 rfl rfl
theorem zw_1661 : (Cond.static ⟨"BlushCourtModel", "thingAt", "(II)I"⟩) ∈ zT := zq_7 221 rfl rfl
theorem zw_1650 : (Cond.code ⟨"BlushCourtModel", "things", "()I"⟩ prog_14_method_13_code 1 (some .int)) ∈ zT := zq_7 210 rfl rfl
theorem zw_1647 : (Cond.methodLink "BlushCourtModel" 85 ⟨"BlushCourtModel", "things", "()I"⟩) ∈ zT := zq_7 207 rfl rfl
theorem zw_1649 : (Cond.instanceMethod ⟨"BlushCourtModel", "things", "()I"⟩) ∈ zT := zq_7 209 rfl rfl
theorem zws_4_5 : Cond.selects "BlushCourtModel" ⟨"BlushCourtModel", "things", "()I"⟩ ⟨"BlushCourtModel", "things", "()I"⟩ ∈ zT := zq_s (q := (⟨"BlushCourtModel", "things", "()I"⟩, 27)) (List.mem_append_right _ (List.mem_append_right _ (List.mem_append_right _ (List.mem_append_left _ (List.mem_of_getElem? (i := 5) rfl)))))
theorem zw_1800 : (Cond.code ⟨"BlushCourtModel", "ofThing", "(II)I"⟩ prog_14_method_19_code 3 (some .int)) ∈ zT := zq_8 120 rfl rfl
theorem zw_1797 : (Cond.methodLink "BlushCourtModel" 89 ⟨"BlushCourtModel", "ofThing", "(II)I"⟩) ∈ zT := zq_8 117 rfl rfl
theorem zw_1799 : (Cond.instanceMethod ⟨"BlushCourtModel", "ofThing", "(II)I"⟩) ∈ zT := zq_8 119 rfl rfl
theorem zws_6_1 : Cond.selects "BlushCourtModel" ⟨"BlushCourtModel", "ofThing", "(II)I"⟩ ⟨"BlushCourtModel", "ofThing", "(II)I"⟩ ∈ zT := zq_s (q := (⟨"BlushCourtModel", "ofThing", "(II)I"⟩, 27)) (List.mem_append_right _ (List.mem_append_right _ (List.mem_append_right _ (List.mem_append_right _ (List.mem_append_right _ (List.mem_append_left _ (List.mem_of_getElem? (i := 1) rfl)))))))
theorem zw_1618 : (Cond.code ⟨"BlushCourtModel", "witnesses", "()I"⟩ prog_14_method_12_code 1 (some .int)) ∈ zT := zq_7 178 rfl rfl
theorem zw_1615 : (Cond.methodLink "BlushCourtModel" 92 ⟨"BlushCourtModel", "witnesses", "()I"⟩) ∈ zT := zq_7 175 rfl rfl
theorem zw_1617 : (Cond.instanceMethod ⟨"BlushCourtModel", "witnesses", "()I"⟩) ∈ zT := zq_7 177 rfl rfl
theorem zws_3_15 : Cond.selects "BlushCourtModel" ⟨"BlushCourtModel", "witnesses", "()I"⟩ ⟨"BlushCourtModel", "witnesses", "()I"⟩ ∈ zT := zq_s (q := (⟨"BlushCourtModel", "witnesses", "()I"⟩, 27)) (List.mem_append_right _ (List.mem_append_right _ (List.mem_append_left _ (List.mem_of_getElem? (i := 15) rfl))))
theorem zw_1756 : (Cond.code ⟨"BlushCourtModel", "in", "(III)Z"⟩ prog_14_method_3_code 3 (some .boolean)) ∈ zT := zq_8 76 rfl rfl
theorem zw_1754 : (Cond.methodLink "BlushCourtModel" 95 ⟨"BlushCourtModel", "in", "(III)Z"⟩) ∈ zT := zq_8 74 rfl rfl
theorem zw_1755 : (Cond.static ⟨"BlushCourtModel", "in", "(III)Z"⟩) ∈ zT := zq_8 75 rfl rfl
theorem zw_1672 : (Cond.code ⟨"BlushCourtModel", "questions", "()I"⟩ prog_14_method_14_code 1 (some .int)) ∈ zT := zq_7 232 rfl rfl
theorem zw_1669 : (Cond.methodLink "BlushCourtModel" 99 ⟨"BlushCourtModel", "questions", "()I"⟩) ∈ zT := zq_7 229 rfl rfl
theorem zw_1671 : (Cond.instanceMethod ⟨"BlushCourtModel", "questions", "()I"⟩) ∈ zT := zq_7 231 rfl rfl
theorem zws_4_8 : Cond.selects "BlushCourtModel" ⟨"BlushCourtModel", "questions", "()I"⟩ ⟨"BlushCourtModel", "questions", "()I"⟩ ∈ zT := zq_s (q := (⟨"BlushCourtModel", "questions", "()I"⟩, 27)) (List.mem_append_right _ (List.mem_append_right _ (List.mem_append_right _ (List.mem_append_left _ (List.mem_of_getElem? (i := 8) rfl)))))
theorem zw_1681 : (Cond.code ⟨"BlushCourtModel", "women", "()I"⟩ prog_14_method_15_code 1 (some .int)) ∈ zT := zq_8 1 rfl rfl
theorem zw_1678 : (Cond.methodLink "BlushCourtModel" 102 ⟨"BlushCourtModel", "women", "()I"⟩) ∈ zT := zq_7 238 rfl rfl
theorem zw_1680 : (Cond.instanceMethod ⟨"BlushCourtModel", "women", "()I"⟩) ∈ zT := zq_8 0 rfl rfl
theorem zws_4_10 : Cond.selects "BlushCourtModel" ⟨"BlushCourtModel", "women", "()I"⟩ ⟨"BlushCourtModel", "women", "()I"⟩ ∈ zT := zq_s (q := (⟨"BlushCourtModel", "women", "()I"⟩, 27)) (List.mem_append_right _ (List.mem_append_right _ (List.mem_append_right _ (List.mem_append_left _ (List.mem_of_getElem? (i := 10) rfl)))))
theorem zw_1810 : (Cond.constant "BlushCourtModel" 105 (1103515245 : Int32)) ∈ zT := zq_8 130 rfl rfl
theorem zw_1474 : (Cond.fieldLink "BlushCourtModel" 106 "BlushCourtModel" "taped" "I") ∈ zT := zq_7 34 rfl rfl
theorem zw_1480 : (Cond.fieldLink "BlushCourtModel" 36 "BlushCourtModel" "five" "[I") ∈ zT := zq_7 40 rfl rfl
theorem zw_1473 : (Cond.fieldLink "BlushCourtModel" 29 "BlushCourtModel" "tape" "[B") ∈ zT := zq_7 33 rfl rfl
theorem zw_1475 : (Cond.fieldLink "BlushCourtModel" 109 "BlushCourtModel" "point" "I") ∈ zT := zq_7 35 rfl rfl
theorem zw_1476 : (Cond.fieldLink "BlushCourtModel" 112 "BlushCourtModel" "end" "I") ∈ zT := zq_7 36 rfl rfl
theorem zw_1591 : (Cond.code ⟨"BlushCourtModel", "isAt", "(II)Z"⟩ prog_14_method_29_code 3 (some .boolean)) ∈ zT := zq_7 151 rfl rfl
theorem zw_1588 : (Cond.methodLink "BlushCourtModel" 115 ⟨"BlushCourtModel", "isAt", "(II)Z"⟩) ∈ zT := zq_7 148 rfl rfl
theorem zw_1590 : (Cond.instanceMethod ⟨"BlushCourtModel", "isAt", "(II)Z"⟩) ∈ zT := zq_7 150 rfl rfl
theorem zws_3_9 : Cond.selects "BlushCourtModel" ⟨"BlushCourtModel", "isAt", "(II)Z"⟩ ⟨"BlushCourtModel", "isAt", "(II)Z"⟩ ∈ zT := zq_s (q := (⟨"BlushCourtModel", "isAt", "(II)Z"⟩, 27)) (List.mem_append_right _ (List.mem_append_right _ (List.mem_append_left _ (List.mem_of_getElem? (i := 9) rfl))))
theorem zw_1477 : (Cond.fieldLink "BlushCourtModel" 119 "BlushCourtModel" "begin" "I") ∈ zT := zq_7 37 rfl rfl
theorem zw_1587 : (Cond.code ⟨"BlushCourtModel", "blanks", "()V"⟩ prog_14_method_30_code 1 (none : Option Jvm.ClassFile.FieldType)) ∈ zT := zq_7 147 rfl rfl
theorem zw_1584 : (Cond.methodLink "BlushCourtModel" 122 ⟨"BlushCourtModel", "blanks", "()V"⟩) ∈ zT := zq_7 144 rfl rfl
theorem zw_1586 : (Cond.instanceMethod ⟨"BlushCourtModel", "blanks", "()V"⟩) ∈ zT := zq_7 146 rfl rfl
theorem zws_3_8 : Cond.selects "BlushCourtModel" ⟨"BlushCourtModel", "blanks", "()V"⟩ ⟨"BlushCourtModel", "blanks", "()V"⟩ ∈ zT := zq_s (q := (⟨"BlushCourtModel", "blanks", "()V"⟩, 27)) (List.mem_append_right _ (List.mem_append_right _ (List.mem_append_left _ (List.mem_of_getElem? (i := 8) rfl))))
theorem zw_1609 : (Cond.methodLink "BlushCourtModel" 125 ⟨"java/lang/String", "length", "()I"⟩) ∈ zT := zq_7 169 rfl rfl
theorem zw_1610 : (Cond.methodLink "BlushCourtModel" 130 ⟨"java/lang/String", "charAt", "(I)C"⟩) ∈ zT := zq_7 170 rfl rfl
theorem zw_1599 : (Cond.code ⟨"BlushCourtModel", "letters", "()V"⟩ prog_14_method_31_code 1 (none : Option Jvm.ClassFile.FieldType)) ∈ zT := zq_7 159 rfl rfl
theorem zw_1596 : (Cond.methodLink "BlushCourtModel" 134 ⟨"BlushCourtModel", "letters", "()V"⟩) ∈ zT := zq_7 156 rfl rfl
theorem zw_1598 : (Cond.instanceMethod ⟨"BlushCourtModel", "letters", "()V"⟩) ∈ zT := zq_7 158 rfl rfl
theorem zws_3_11 : Cond.selects "BlushCourtModel" ⟨"BlushCourtModel", "letters", "()V"⟩ ⟨"BlushCourtModel", "letters", "()V"⟩ ∈ zT := zq_s (q := (⟨"BlushCourtModel", "letters", "()V"⟩, 27)) (List.mem_append_right _ (List.mem_append_right _ (List.mem_append_left _ (List.mem_of_getElem? (i := 11) rfl))))
theorem zw_1608 : (Cond.code ⟨"BlushCourtModel", "isWord", "(Ljava/lang/String;)Z"⟩ prog_14_method_32_code 4 (some .boolean)) ∈ zT := zq_7 168 rfl rfl
theorem zw_1605 : (Cond.methodLink "BlushCourtModel" 137 ⟨"BlushCourtModel", "isWord", "(Ljava/lang/String;)Z"⟩) ∈ zT := zq_7 165 rfl rfl
theorem zw_1607 : (Cond.instanceMethod ⟨"BlushCourtModel", "isWord", "(Ljava/lang/String;)Z"⟩) ∈ zT := zq_7 167 rfl rfl
theorem zws_3_13 : Cond.selects "BlushCourtModel" ⟨"BlushCourtModel", "isWord", "(Ljava/lang/String;)Z"⟩ ⟨"BlushCourtModel", "isWord", "(Ljava/lang/String;)Z"⟩ ∈ zT := zq_s (q := (⟨"BlushCourtModel", "isWord", "(Ljava/lang/String;)Z"⟩, 27)) (List.mem_append_right _ (List.mem_append_right _ (List.mem_append_left _ (List.mem_of_getElem? (i := 13) rfl))))
theorem zw_1627 : (Cond.code ⟨"BlushCourtModel", "number", "(II)I"⟩ prog_14_method_35_code 4 (some .int)) ∈ zT := zq_7 187 rfl rfl
theorem zw_1624 : (Cond.methodLink "BlushCourtModel" 141 ⟨"BlushCourtModel", "number", "(II)I"⟩) ∈ zT := zq_7 184 rfl rfl
theorem zw_1626 : (Cond.instanceMethod ⟨"BlushCourtModel", "number", "(II)I"⟩) ∈ zT := zq_7 186 rfl rfl
theorem zws_4_1 : Cond.selects "BlushCourtModel" ⟨"BlushCourtModel", "number", "(II)I"⟩ ⟨"BlushCourtModel", "number", "(II)I"⟩ ∈ zT := zq_s (q := (⟨"BlushCourtModel", "number", "(II)I"⟩, 27)) (List.mem_append_right _ (List.mem_append_right _ (List.mem_append_right _ (List.mem_append_left _ (List.mem_of_getElem? (i := 1) rfl)))))
theorem zw_1637 : (Cond.code ⟨"BlushCourtModel", "passes", "(Ljava/lang/String;)Z"⟩ prog_14_method_33_code 2 (some .boolean)) ∈ zT := zq_7 197 rfl rfl
theorem zw_1634 : (Cond.methodLink "BlushCourtModel" 144 ⟨"BlushCourtModel", "passes", "(Ljava/lang/String;)Z"⟩) ∈ zT := zq_7 194 rfl rfl
theorem zw_1636 : (Cond.instanceMethod ⟨"BlushCourtModel", "passes", "(Ljava/lang/String;)Z"⟩) ∈ zT := zq_7 196 rfl rfl
theorem zws_4_3 : Cond.selects "BlushCourtModel" ⟨"BlushCourtModel", "passes", "(Ljava/lang/String;)Z"⟩ ⟨"BlushCourtModel", "passes", "(Ljava/lang/String;)Z"⟩ ∈ zT := zq_s (q := (⟨"BlushCourtModel", "passes", "(Ljava/lang/String;)Z"⟩, 27)) (List.mem_append_right _ (List.mem_append_right _ (List.mem_append_right _ (List.mem_append_left _ (List.mem_of_getElem? (i := 3) rfl)))))
theorem zw_1479 : (Cond.fieldLink "BlushCourtModel" 33 "BlushCourtModel" "faultAt" "I") ∈ zT := zq_7 39 rfl rfl
theorem zw_1659 : (Cond.code ⟨"BlushCourtModel", "has", "(II)Z"⟩ prog_14_method_4_code 2 (some .boolean)) ∈ zT := zq_7 219 rfl rfl
theorem zw_1657 : (Cond.methodLink "BlushCourtModel" 147 ⟨"BlushCourtModel", "has", "(II)Z"⟩) ∈ zT := zq_7 217 rfl rfl
theorem zw_1658 : (Cond.static ⟨"BlushCourtModel", "has", "(II)Z"⟩) ∈ zT := zq_7 218 rfl rfl
theorem zw_1623 : (Cond.code ⟨"BlushCourtModel", "behind", "(Ljava/lang/String;II)I"⟩ prog_14_method_36_code 4 (some .int)) ∈ zT := zq_7 183 rfl rfl
theorem zw_1620 : (Cond.methodLink "BlushCourtModel" 152 ⟨"BlushCourtModel", "behind", "(Ljava/lang/String;II)I"⟩) ∈ zT := zq_7 180 rfl rfl
theorem zw_1622 : (Cond.instanceMethod ⟨"BlushCourtModel", "behind", "(Ljava/lang/String;II)I"⟩) ∈ zT := zq_7 182 rfl rfl
theorem zws_4_0 : Cond.selects "BlushCourtModel" ⟨"BlushCourtModel", "behind", "(Ljava/lang/String;II)I"⟩ ⟨"BlushCourtModel", "behind", "(Ljava/lang/String;II)I"⟩ ∈ zT := zq_s (q := (⟨"BlushCourtModel", "behind", "(Ljava/lang/String;II)I"⟩, 27)) (List.mem_append_right _ (List.mem_append_right _ (List.mem_append_right _ (List.mem_append_left _ (List.mem_of_getElem? (i := 0) rfl)))))
theorem zw_1633 : (Cond.code ⟨"BlushCourtModel", "told", "(Ljava/lang/String;)I"⟩ prog_14_method_37_code 2 (some .int)) ∈ zT := zq_7 193 rfl rfl
theorem zw_1630 : (Cond.methodLink "BlushCourtModel" 160 ⟨"BlushCourtModel", "told", "(Ljava/lang/String;)I"⟩) ∈ zT := zq_7 190 rfl rfl
theorem zw_1632 : (Cond.instanceMethod ⟨"BlushCourtModel", "told", "(Ljava/lang/String;)I"⟩) ∈ zT := zq_7 192 rfl rfl
theorem zws_4_2 : Cond.selects "BlushCourtModel" ⟨"BlushCourtModel", "told", "(Ljava/lang/String;)I"⟩ ⟨"BlushCourtModel", "told", "(Ljava/lang/String;)I"⟩ ∈ zT := zq_s (q := (⟨"BlushCourtModel", "told", "(Ljava/lang/String;)I"⟩, 27)) (List.mem_append_right _ (List.mem_append_right _ (List.mem_append_right _ (List.mem_append_left _ (List.mem_of_getElem? (i := 2) rfl)))))
theorem zw_1656 : (Cond.code ⟨"BlushCourtModel", "lettersTold", "(I)I"⟩ prog_14_method_41_code 6 (some .int)) ∈ zT := zq_7 216 rfl rfl
theorem zw_1653 : (Cond.methodLink "BlushCourtModel" 170 ⟨"BlushCourtModel", "lettersTold", "(I)I"⟩) ∈ zT := zq_7 213 rfl rfl
theorem zw_1655 : (Cond.instanceMethod ⟨"BlushCourtModel", "lettersTold", "(I)I"⟩) ∈ zT := zq_7 215 rfl rfl
theorem zws_4_6 : Cond.selects "BlushCourtModel" ⟨"BlushCourtModel", "lettersTold", "(I)I"⟩ ⟨"BlushCourtModel", "lettersTold", "(I)I"⟩ ∈ zT := zq_s (q := (⟨"BlushCourtModel", "lettersTold", "(I)I"⟩, 27)) (List.mem_append_right _ (List.mem_append_right _ (List.mem_append_right _ (List.mem_append_left _ (List.mem_of_getElem? (i := 6) rfl)))))
theorem zw_1687 : (Cond.code ⟨"BlushCourtModel", "readNumber", "(III)Z"⟩ prog_14_method_40_code 5 (some .boolean)) ∈ zT := zq_8 7 rfl rfl
theorem zw_1684 : (Cond.methodLink "BlushCourtModel" 201 ⟨"BlushCourtModel", "readNumber", "(III)Z"⟩) ∈ zT := zq_8 4 rfl rfl
theorem zw_1686 : (Cond.instanceMethod ⟨"BlushCourtModel", "readNumber", "(III)Z"⟩) ∈ zT := zq_8 6 rfl rfl
theorem zws_4_11 : Cond.selects "BlushCourtModel" ⟨"BlushCourtModel", "readNumber", "(III)Z"⟩ ⟨"BlushCourtModel", "readNumber", "(III)Z"⟩ ∈ zT := zq_s (q := (⟨"BlushCourtModel", "readNumber", "(III)Z"⟩, 27)) (List.mem_append_right _ (List.mem_append_right _ (List.mem_append_right _ (List.mem_append_left _ (List.mem_of_getElem? (i := 11) rfl)))))
theorem zw_1677 : (Cond.code ⟨"BlushCourtModel", "readWoman", "()Z"⟩ prog_14_method_45_code 2 (some .boolean)) ∈ zT := zq_7 237 rfl rfl
theorem zw_1674 : (Cond.methodLink "BlushCourtModel" 196 ⟨"BlushCourtModel", "readWoman", "()Z"⟩) ∈ zT := zq_7 234 rfl rfl
theorem zw_1676 : (Cond.instanceMethod ⟨"BlushCourtModel", "readWoman", "()Z"⟩) ∈ zT := zq_7 236 rfl rfl
theorem zws_4_9 : Cond.selects "BlushCourtModel" ⟨"BlushCourtModel", "readWoman", "()Z"⟩ ⟨"BlushCourtModel", "readWoman", "()Z"⟩ ∈ zT := zq_s (q := (⟨"BlushCourtModel", "readWoman", "()Z"⟩, 27)) (List.mem_append_right _ (List.mem_append_right _ (List.mem_append_right _ (List.mem_append_left _ (List.mem_of_getElem? (i := 9) rfl)))))
theorem zw_1668 : (Cond.code ⟨"BlushCourtModel", "readAsk", "()Z"⟩ prog_14_method_44_code 2 (some .boolean)) ∈ zT := zq_7 228 rfl rfl
theorem zw_1665 : (Cond.methodLink "BlushCourtModel" 191 ⟨"BlushCourtModel", "readAsk", "()Z"⟩) ∈ zT := zq_7 225 rfl rfl
theorem zw_1667 : (Cond.instanceMethod ⟨"BlushCourtModel", "readAsk", "()Z"⟩) ∈ zT := zq_7 227 rfl rfl
theorem zws_4_7 : Cond.selects "BlushCourtModel" ⟨"BlushCourtModel", "readAsk", "()Z"⟩ ⟨"BlushCourtModel", "readAsk", "()Z"⟩ ∈ zT := zq_s (q := (⟨"BlushCourtModel", "readAsk", "()Z"⟩, 27)) (List.mem_append_right _ (List.mem_append_right _ (List.mem_append_right _ (List.mem_append_left _ (List.mem_of_getElem? (i := 7) rfl)))))
theorem zw_1646 : (Cond.code ⟨"BlushCourtModel", "readThing", "()Z"⟩ prog_14_method_43_code 5 (some .boolean)) ∈ zT := zq_7 206 rfl rfl
theorem zw_1643 : (Cond.methodLink "BlushCourtModel" 186 ⟨"BlushCourtModel", "readThing", "()Z"⟩) ∈ zT := zq_7 203 rfl rfl
theorem zw_1645 : (Cond.instanceMethod ⟨"BlushCourtModel", "readThing", "()Z"⟩) ∈ zT := zq_7 205 rfl rfl
theorem zws_4_4 : Cond.selects "BlushCourtModel" ⟨"BlushCourtModel", "readThing", "()Z"⟩ ⟨"BlushCourtModel", "readThing", "()Z"⟩ ∈ zT := zq_s (q := (⟨"BlushCourtModel", "readThing", "()Z"⟩, 27)) (List.mem_append_right _ (List.mem_append_right _ (List.mem_append_right _ (List.mem_append_left _ (List.mem_of_getElem? (i := 4) rfl)))))
theorem zw_1614 : (Cond.code ⟨"BlushCourtModel", "readWitness", "()Z"⟩ prog_14_method_42_code 6 (some .boolean)) ∈ zT := zq_7 174 rfl rfl
theorem zw_1611 : (Cond.methodLink "BlushCourtModel" 180 ⟨"BlushCourtModel", "readWitness", "()Z"⟩) ∈ zT := zq_7 171 rfl rfl
theorem zw_1613 : (Cond.instanceMethod ⟨"BlushCourtModel", "readWitness", "()Z"⟩) ∈ zT := zq_7 173 rfl rfl
theorem zws_3_14 : Cond.selects "BlushCourtModel" ⟨"BlushCourtModel", "readWitness", "()Z"⟩ ⟨"BlushCourtModel", "readWitness", "()Z"⟩ ∈ zT := zq_s (q := (⟨"BlushCourtModel", "readWitness", "()Z"⟩, 27)) (List.mem_append_right _ (List.mem_append_right _ (List.mem_append_left _ (List.mem_of_getElem? (i := 14) rfl))))
theorem zw_1481 : (Cond.fieldLink "BlushCourtModel" 210 "BlushCourtModel" "codes" "I") ∈ zT := zq_7 41 rfl rfl
theorem zw_1738 : (Cond.code ⟨"BlushCourtModel", "wordOfPart", "()I"⟩ prog_14_method_48_code 1 (some .int)) ∈ zT := zq_8 58 rfl rfl
theorem zw_1735 : (Cond.methodLink "BlushCourtModel" 215 ⟨"BlushCourtModel", "wordOfPart", "()I"⟩) ∈ zT := zq_8 55 rfl rfl
theorem zw_1737 : (Cond.instanceMethod ⟨"BlushCourtModel", "wordOfPart", "()I"⟩) ∈ zT := zq_8 57 rfl rfl
theorem zws_5_5 : Cond.selects "BlushCourtModel" ⟨"BlushCourtModel", "wordOfPart", "()I"⟩ ⟨"BlushCourtModel", "wordOfPart", "()I"⟩ ∈ zT := zq_s (q := (⟨"BlushCourtModel", "wordOfPart", "()I"⟩, 27)) (List.mem_append_right _ (List.mem_append_right _ (List.mem_append_right _ (List.mem_append_right _ (List.mem_append_left _ (List.mem_of_getElem? (i := 5) rfl))))))
theorem zw_1719 : (Cond.code ⟨"BlushCourtModel", "emits", "(II)V"⟩ prog_14_method_47_code 3 (none : Option Jvm.ClassFile.FieldType)) ∈ zT := zq_8 39 rfl rfl
theorem zw_1716 : (Cond.methodLink "BlushCourtModel" 218 ⟨"BlushCourtModel", "emits", "(II)V"⟩) ∈ zT := zq_8 36 rfl rfl
theorem zw_1718 : (Cond.instanceMethod ⟨"BlushCourtModel", "emits", "(II)V"⟩) ∈ zT := zq_8 38 rfl rfl
theorem zws_5_1 : Cond.selects "BlushCourtModel" ⟨"BlushCourtModel", "emits", "(II)V"⟩ ⟨"BlushCourtModel", "emits", "(II)V"⟩ ∈ zT := zq_s (q := (⟨"BlushCourtModel", "emits", "(II)V"⟩, 27)) (List.mem_append_right _ (List.mem_append_right _ (List.mem_append_right _ (List.mem_append_right _ (List.mem_append_left _ (List.mem_of_getElem? (i := 1) rfl))))))
theorem zw_1734 : (Cond.code ⟨"BlushCourtModel", "readPart", "()Z"⟩ prog_14_method_49_code 3 (some .boolean)) ∈ zT := zq_8 54 rfl rfl
theorem zw_1731 : (Cond.methodLink "BlushCourtModel" 222 ⟨"BlushCourtModel", "readPart", "()Z"⟩) ∈ zT := zq_8 51 rfl rfl
theorem zw_1733 : (Cond.instanceMethod ⟨"BlushCourtModel", "readPart", "()Z"⟩) ∈ zT := zq_8 53 rfl rfl
theorem zws_5_4 : Cond.selects "BlushCourtModel" ⟨"BlushCourtModel", "readPart", "()Z"⟩ ⟨"BlushCourtModel", "readPart", "()Z"⟩ ∈ zT := zq_s (q := (⟨"BlushCourtModel", "readPart", "()Z"⟩, 27)) (List.mem_append_right _ (List.mem_append_right _ (List.mem_append_right _ (List.mem_append_right _ (List.mem_append_left _ (List.mem_of_getElem? (i := 4) rfl))))))
theorem zw_1714 : (Cond.code ⟨"BlushCourtModel", "sign", "(I)Z"⟩ prog_14_method_34_code 2 (some .boolean)) ∈ zT := zq_8 34 rfl rfl
theorem zw_1711 : (Cond.methodLink "BlushCourtModel" 225 ⟨"BlushCourtModel", "sign", "(I)Z"⟩) ∈ zT := zq_8 31 rfl rfl
theorem zw_1713 : (Cond.instanceMethod ⟨"BlushCourtModel", "sign", "(I)Z"⟩) ∈ zT := zq_8 33 rfl rfl
theorem zws_5_0 : Cond.selects "BlushCourtModel" ⟨"BlushCourtModel", "sign", "(I)Z"⟩ ⟨"BlushCourtModel", "sign", "(I)Z"⟩ ∈ zT := zq_s (q := (⟨"BlushCourtModel", "sign", "(I)Z"⟩, 27)) (List.mem_append_right _ (List.mem_append_right _ (List.mem_append_right _ (List.mem_append_right _ (List.mem_append_left _ (List.mem_of_getElem? (i := 0) rfl))))))
theorem zw_1723 : (Cond.code ⟨"BlushCourtModel", "readTag", "()Z"⟩ prog_14_method_51_code 2 (some .boolean)) ∈ zT := zq_8 43 rfl rfl
theorem zw_1720 : (Cond.methodLink "BlushCourtModel" 246 ⟨"BlushCourtModel", "readTag", "()Z"⟩) ∈ zT := zq_8 40 rfl rfl
theorem zw_1722 : (Cond.instanceMethod ⟨"BlushCourtModel", "readTag", "()Z"⟩) ∈ zT := zq_8 42 rfl rfl
theorem zws_5_2 : Cond.selects "BlushCourtModel" ⟨"BlushCourtModel", "readTag", "()Z"⟩ ⟨"BlushCourtModel", "readTag", "()Z"⟩ ∈ zT := zq_s (q := (⟨"BlushCourtModel", "readTag", "()Z"⟩, 27)) (List.mem_append_right _ (List.mem_append_right _ (List.mem_append_right _ (List.mem_append_right _ (List.mem_append_left _ (List.mem_of_getElem? (i := 2) rfl))))))
theorem zw_1730 : (Cond.code ⟨"BlushCourtModel", "readSum", "()Z"⟩ prog_14_method_50_code 1 (some .boolean)) ∈ zT := zq_8 50 rfl rfl
theorem zw_1727 : (Cond.methodLink "BlushCourtModel" 249 ⟨"BlushCourtModel", "readSum", "()Z"⟩) ∈ zT := zq_8 47 rfl rfl
theorem zw_1729 : (Cond.instanceMethod ⟨"BlushCourtModel", "readSum", "()Z"⟩) ∈ zT := zq_8 49 rfl rfl
theorem zws_5_3 : Cond.selects "BlushCourtModel" ⟨"BlushCourtModel", "readSum", "()Z"⟩ ⟨"BlushCourtModel", "readSum", "()Z"⟩ ∈ zT := zq_s (q := (⟨"BlushCourtModel", "readSum", "()Z"⟩, 27)) (List.mem_append_right _ (List.mem_append_right _ (List.mem_append_right _ (List.mem_append_right _ (List.mem_append_left _ (List.mem_of_getElem? (i := 3) rfl))))))
theorem zw_1478 : (Cond.fieldLink "BlushCourtModel" 235 "BlushCourtModel" "deep" "I") ∈ zT := zq_7 38 rfl rfl
theorem zw_1710 : (Cond.code ⟨"BlushCourtModel", "readAtom", "()Z"⟩ prog_14_method_52_code 2 (some .boolean)) ∈ zT := zq_8 30 rfl rfl
theorem zw_1707 : (Cond.methodLink "BlushCourtModel" 243 ⟨"BlushCourtModel", "readAtom", "()Z"⟩) ∈ zT := zq_8 27 rfl rfl
theorem zw_1709 : (Cond.instanceMethod ⟨"BlushCourtModel", "readAtom", "()Z"⟩) ∈ zT := zq_8 29 rfl rfl
theorem zws_4_15 : Cond.selects "BlushCourtModel" ⟨"BlushCourtModel", "readAtom", "()Z"⟩ ⟨"BlushCourtModel", "readAtom", "()Z"⟩ ∈ zT := zq_s (q := (⟨"BlushCourtModel", "readAtom", "()Z"⟩, 27)) (List.mem_append_right _ (List.mem_append_right _ (List.mem_append_right _ (List.mem_append_left _ (List.mem_of_getElem? (i := 15) rfl)))))
theorem zw_1702 : (Cond.code ⟨"BlushCourtModel", "readCond", "()Z"⟩ prog_14_method_54_code 1 (some .boolean)) ∈ zT := zq_8 22 rfl rfl
theorem zw_1699 : (Cond.methodLink "BlushCourtModel" 238 ⟨"BlushCourtModel", "readCond", "()Z"⟩) ∈ zT := zq_8 19 rfl rfl
theorem zw_1701 : (Cond.instanceMethod ⟨"BlushCourtModel", "readCond", "()Z"⟩) ∈ zT := zq_8 21 rfl rfl
theorem zws_4_13 : Cond.selects "BlushCourtModel" ⟨"BlushCourtModel", "readCond", "()Z"⟩ ⟨"BlushCourtModel", "readCond", "()Z"⟩ ∈ zT := zq_s (q := (⟨"BlushCourtModel", "readCond", "()Z"⟩, 27)) (List.mem_append_right _ (List.mem_append_right _ (List.mem_append_right _ (List.mem_append_left _ (List.mem_of_getElem? (i := 13) rfl)))))
theorem zw_1706 : (Cond.code ⟨"BlushCourtModel", "readAllOf", "()Z"⟩ prog_14_method_53_code 1 (some .boolean)) ∈ zT := zq_8 26 rfl rfl
theorem zw_1703 : (Cond.methodLink "BlushCourtModel" 254 ⟨"BlushCourtModel", "readAllOf", "()Z"⟩) ∈ zT := zq_8 23 rfl rfl
theorem zw_1705 : (Cond.instanceMethod ⟨"BlushCourtModel", "readAllOf", "()Z"⟩) ∈ zT := zq_8 25 rfl rfl
theorem zws_4_14 : Cond.selects "BlushCourtModel" ⟨"BlushCourtModel", "readAllOf", "()Z"⟩ ⟨"BlushCourtModel", "readAllOf", "()Z"⟩ ∈ zT := zq_s (q := (⟨"BlushCourtModel", "readAllOf", "()Z"⟩, 27)) (List.mem_append_right _ (List.mem_append_right _ (List.mem_append_right _ (List.mem_append_left _ (List.mem_of_getElem? (i := 14) rfl)))))
theorem zw_1694 : (Cond.code ⟨"BlushCourtModel", "readLawLine", "(I)Z"⟩ prog_14_method_55_code 3 (some .boolean)) ∈ zT := zq_8 14 rfl rfl
theorem zw_1691 : (Cond.methodLink "BlushCourtModel" 268 ⟨"BlushCourtModel", "readLawLine", "(I)Z"⟩) ∈ zT := zq_8 11 rfl rfl
theorem zw_1693 : (Cond.instanceMethod ⟨"BlushCourtModel", "readLawLine", "(I)Z"⟩) ∈ zT := zq_8 13 rfl rfl
theorem zws_4_12 : Cond.selects "BlushCourtModel" ⟨"BlushCourtModel", "readLawLine", "(I)Z"⟩ ⟨"BlushCourtModel", "readLawLine", "(I)Z"⟩ ∈ zT := zq_s (q := (⟨"BlushCourtModel", "readLawLine", "(I)Z"⟩, 27)) (List.mem_append_right _ (List.mem_append_right _ (List.mem_append_right _ (List.mem_append_left _ (List.mem_of_getElem? (i := 12) rfl)))))
theorem zw_1603 : (Cond.code ⟨"BlushCourtModel", "readCourtLine", "()Z"⟩ prog_14_method_46_code 1 (some .boolean)) ∈ zT := zq_7 163 rfl rfl
theorem zw_1600 : (Cond.methodLink "BlushCourtModel" 265 ⟨"BlushCourtModel", "readCourtLine", "()Z"⟩) ∈ zT := zq_7 160 rfl rfl
theorem zw_1602 : (Cond.instanceMethod ⟨"BlushCourtModel", "readCourtLine", "()Z"⟩) ∈ zT := zq_7 162 rfl rfl
theorem zws_3_12 : Cond.selects "BlushCourtModel" ⟨"BlushCourtModel", "readCourtLine", "()Z"⟩ ⟨"BlushCourtModel", "readCourtLine", "()Z"⟩ ∈ zT := zq_s (q := (⟨"BlushCourtModel", "readCourtLine", "()Z"⟩, 27)) (List.mem_append_right _ (List.mem_append_right _ (List.mem_append_left _ (List.mem_of_getElem? (i := 12) rfl))))
theorem zw_1583 : (Cond.code ⟨"BlushCourtModel", "uses", "()V"⟩ prog_14_method_39_code 1 (none : Option Jvm.ClassFile.FieldType)) ∈ zT := zq_7 143 rfl rfl
theorem zw_1580 : (Cond.methodLink "BlushCourtModel" 271 ⟨"BlushCourtModel", "uses", "()V"⟩) ∈ zT := zq_7 140 rfl rfl
theorem zw_1582 : (Cond.instanceMethod ⟨"BlushCourtModel", "uses", "()V"⟩) ∈ zT := zq_7 142 rfl rfl
theorem zws_3_7 : Cond.selects "BlushCourtModel" ⟨"BlushCourtModel", "uses", "()V"⟩ ⟨"BlushCourtModel", "uses", "()V"⟩ ∈ zT := zq_s (q := (⟨"BlushCourtModel", "uses", "()V"⟩, 27)) (List.mem_append_right _ (List.mem_append_right _ (List.mem_append_left _ (List.mem_of_getElem? (i := 7) rfl))))
theorem zw_1595 : (Cond.code ⟨"BlushCourtModel", "readLine", "(ZI)Z"⟩ prog_14_method_56_code 3 (some .boolean)) ∈ zT := zq_7 155 rfl rfl
theorem zw_1592 : (Cond.methodLink "BlushCourtModel" 274 ⟨"BlushCourtModel", "readLine", "(ZI)Z"⟩) ∈ zT := zq_7 152 rfl rfl
theorem zw_1594 : (Cond.instanceMethod ⟨"BlushCourtModel", "readLine", "(ZI)Z"⟩) ∈ zT := zq_7 154 rfl rfl
theorem zws_3_10 : Cond.selects "BlushCourtModel" ⟨"BlushCourtModel", "readLine", "(ZI)Z"⟩ ⟨"BlushCourtModel", "readLine", "(ZI)Z"⟩ ∈ zT := zq_s (q := (⟨"BlushCourtModel", "readLine", "(ZI)Z"⟩, 27)) (List.mem_append_right _ (List.mem_append_right _ (List.mem_append_left _ (List.mem_of_getElem? (i := 10) rfl))))
theorem zw_1579 : (Cond.code ⟨"BlushCourtModel", "readAll", "(Z)I"⟩ prog_14_method_57_code 3 (some .int)) ∈ zT := zq_7 139 rfl rfl
theorem zw_1576 : (Cond.methodLink "BlushCourtModel" 278 ⟨"BlushCourtModel", "readAll", "(Z)I"⟩) ∈ zT := zq_7 136 rfl rfl
theorem zw_1578 : (Cond.instanceMethod ⟨"BlushCourtModel", "readAll", "(Z)I"⟩) ∈ zT := zq_7 138 rfl rfl
theorem zws_3_6 : Cond.selects "BlushCourtModel" ⟨"BlushCourtModel", "readAll", "(Z)I"⟩ ⟨"BlushCourtModel", "readAll", "(Z)I"⟩ ∈ zT := zq_s (q := (⟨"BlushCourtModel", "readAll", "(Z)I"⟩, 27)) (List.mem_append_right _ (List.mem_append_right _ (List.mem_append_left _ (List.mem_of_getElem? (i := 6) rfl))))
theorem zw_1468 : (Cond.fieldLink "BlushCourtModel" 20 "BlushCourtModel" "earlier" "[I") ∈ zT := zq_7 28 rfl rfl
theorem zw_1745 : (Cond.code ⟨"BlushCourtModel", "throwsIf", "(ZI)Z"⟩ prog_14_method_2_code 3 (some .boolean)) ∈ zT := zq_8 65 rfl rfl
theorem zw_1742 : (Cond.methodLink "BlushCourtModel" 282 ⟨"BlushCourtModel", "throwsIf", "(ZI)Z"⟩) ∈ zT := zq_8 62 rfl rfl
theorem zw_1744 : (Cond.instanceMethod ⟨"BlushCourtModel", "throwsIf", "(ZI)Z"⟩) ∈ zT := zq_8 64 rfl rfl
theorem zws_5_6 : Cond.selects "BlushCourtModel" ⟨"BlushCourtModel", "throwsIf", "(ZI)Z"⟩ ⟨"BlushCourtModel", "throwsIf", "(ZI)Z"⟩ ∈ zT := zq_s (q := (⟨"BlushCourtModel", "throwsIf", "(ZI)Z"⟩, 27)) (List.mem_append_right _ (List.mem_append_right _ (List.mem_append_right _ (List.mem_append_right _ (List.mem_append_left _ (List.mem_of_getElem? (i := 6) rfl))))))
theorem zw_1792 : (Cond.code ⟨"BlushCourtModel", "of", "(II)I"⟩ prog_14_method_17_code 3 (some .int)) ∈ zT := zq_8 112 rfl rfl
theorem zw_1789 : (Cond.methodLink "BlushCourtModel" 285 ⟨"BlushCourtModel", "of", "(II)I"⟩) ∈ zT := zq_8 109 rfl rfl
theorem zw_1791 : (Cond.instanceMethod ⟨"BlushCourtModel", "of", "(II)I"⟩) ∈ zT := zq_8 111 rfl rfl
theorem zws_5_15 : Cond.selects "BlushCourtModel" ⟨"BlushCourtModel", "of", "(II)I"⟩ ⟨"BlushCourtModel", "of", "(II)I"⟩ ∈ zT := zq_s (q := (⟨"BlushCourtModel", "of", "(II)I"⟩, 27)) (List.mem_append_right _ (List.mem_append_right _ (List.mem_append_right _ (List.mem_append_right _ (List.mem_append_left _ (List.mem_of_getElem? (i := 15) rfl))))))
theorem zw_1796 : (Cond.code ⟨"BlushCourtModel", "weightOn", "(II)I"⟩ prog_14_method_60_code 5 (some .int)) ∈ zT := zq_8 116 rfl rfl
theorem zw_1793 : (Cond.methodLink "BlushCourtModel" 288 ⟨"BlushCourtModel", "weightOn", "(II)I"⟩) ∈ zT := zq_8 113 rfl rfl
theorem zw_1795 : (Cond.instanceMethod ⟨"BlushCourtModel", "weightOn", "(II)I"⟩) ∈ zT := zq_8 115 rfl rfl
theorem zws_6_0 : Cond.selects "BlushCourtModel" ⟨"BlushCourtModel", "weightOn", "(II)I"⟩ ⟨"BlushCourtModel", "weightOn", "(II)I"⟩ ∈ zT := zq_s (q := (⟨"BlushCourtModel", "weightOn", "(II)I"⟩, 27)) (List.mem_append_right _ (List.mem_append_right _ (List.mem_append_right _ (List.mem_append_right _ (List.mem_append_right _ (List.mem_append_left _ (List.mem_of_getElem? (i := 0) rfl)))))))
theorem zw_1804 : (Cond.code ⟨"BlushCourtModel", "isEdge", "(I)Z"⟩ prog_14_method_61_code 2 (some .boolean)) ∈ zT := zq_8 124 rfl rfl
theorem zw_1801 : (Cond.methodLink "BlushCourtModel" 291 ⟨"BlushCourtModel", "isEdge", "(I)Z"⟩) ∈ zT := zq_8 121 rfl rfl
theorem zw_1803 : (Cond.instanceMethod ⟨"BlushCourtModel", "isEdge", "(I)Z"⟩) ∈ zT := zq_8 123 rfl rfl
theorem zws_6_2 : Cond.selects "BlushCourtModel" ⟨"BlushCourtModel", "isEdge", "(I)Z"⟩ ⟨"BlushCourtModel", "isEdge", "(I)Z"⟩ ∈ zT := zq_s (q := (⟨"BlushCourtModel", "isEdge", "(I)Z"⟩, 27)) (List.mem_append_right _ (List.mem_append_right _ (List.mem_append_right _ (List.mem_append_right _ (List.mem_append_right _ (List.mem_append_left _ (List.mem_of_getElem? (i := 2) rfl)))))))
theorem zw_1482 : (Cond.fieldLink "BlushCourtModel" 39 "BlushCourtModel" "value" "[I") ∈ zT := zq_7 42 rfl rfl
theorem zw_1788 : (Cond.code ⟨"BlushCourtModel", "factOf", "(IIII)I"⟩ prog_14_method_62_code 5 (some .int)) ∈ zT := zq_8 108 rfl rfl
theorem zw_1785 : (Cond.methodLink "BlushCourtModel" 294 ⟨"BlushCourtModel", "factOf", "(IIII)I"⟩) ∈ zT := zq_8 105 rfl rfl
theorem zw_1787 : (Cond.instanceMethod ⟨"BlushCourtModel", "factOf", "(IIII)I"⟩) ∈ zT := zq_8 107 rfl rfl
theorem zws_5_14 : Cond.selects "BlushCourtModel" ⟨"BlushCourtModel", "factOf", "(IIII)I"⟩ ⟨"BlushCourtModel", "factOf", "(IIII)I"⟩ ∈ zT := zq_s (q := (⟨"BlushCourtModel", "factOf", "(IIII)I"⟩, 27)) (List.mem_append_right _ (List.mem_append_right _ (List.mem_append_right _ (List.mem_append_right _ (List.mem_append_left _ (List.mem_of_getElem? (i := 14) rfl))))))
theorem zw_1784 : (Cond.code ⟨"BlushCourtModel", "holdsLine", "(III)Z"⟩ prog_14_method_63_code 11 (some .boolean)) ∈ zT := zq_8 104 rfl rfl
theorem zw_1781 : (Cond.methodLink "BlushCourtModel" 298 ⟨"BlushCourtModel", "holdsLine", "(III)Z"⟩) ∈ zT := zq_8 101 rfl rfl
theorem zw_1783 : (Cond.instanceMethod ⟨"BlushCourtModel", "holdsLine", "(III)Z"⟩) ∈ zT := zq_8 103 rfl rfl
theorem zws_5_13 : Cond.selects "BlushCourtModel" ⟨"BlushCourtModel", "holdsLine", "(III)Z"⟩ ⟨"BlushCourtModel", "holdsLine", "(III)Z"⟩ ∈ zT := zq_s (q := (⟨"BlushCourtModel", "holdsLine", "(III)Z"⟩, 27)) (List.mem_append_right _ (List.mem_append_right _ (List.mem_append_right _ (List.mem_append_right _ (List.mem_append_left _ (List.mem_of_getElem? (i := 13) rfl))))))
theorem zw_1780 : (Cond.code ⟨"BlushCourtModel", "sumOf", "(III)I"⟩ prog_14_method_64_code 6 (some .int)) ∈ zT := zq_8 100 rfl rfl
theorem zw_1777 : (Cond.methodLink "BlushCourtModel" 301 ⟨"BlushCourtModel", "sumOf", "(III)I"⟩) ∈ zT := zq_8 97 rfl rfl
theorem zw_1779 : (Cond.instanceMethod ⟨"BlushCourtModel", "sumOf", "(III)I"⟩) ∈ zT := zq_8 99 rfl rfl
theorem zws_5_12 : Cond.selects "BlushCourtModel" ⟨"BlushCourtModel", "sumOf", "(III)I"⟩ ⟨"BlushCourtModel", "sumOf", "(III)I"⟩ ∈ zT := zq_s (q := (⟨"BlushCourtModel", "sumOf", "(III)I"⟩, 27)) (List.mem_append_right _ (List.mem_append_right _ (List.mem_append_right _ (List.mem_append_right _ (List.mem_append_left _ (List.mem_of_getElem? (i := 12) rfl))))))
theorem zw_1805 : (Cond.methodLink "BlushCourtModel" 305 ⟨"java/lang/Math", "max", "(II)I"⟩) ∈ zT := zq_8 125 rfl rfl
theorem zw_1835 : (Cond.methodLink "BlushCourtModel" 310 ⟨"java/lang/Math", "min", "(II)I"⟩) ∈ zT := zq_8 155 rfl rfl
theorem zw_1483 : (Cond.fieldLink "BlushCourtModel" 42 "BlushCourtModel" "rise" "[I") ∈ zT := zq_7 43 rfl rfl
theorem zw_1830 : (Cond.code ⟨"BlushCourtModel", "ownOf", "(II)I"⟩ prog_14_method_65_code 4 (some .int)) ∈ zT := zq_8 150 rfl rfl
theorem zw_1827 : (Cond.methodLink "BlushCourtModel" 313 ⟨"BlushCourtModel", "ownOf", "(II)I"⟩) ∈ zT := zq_8 147 rfl rfl
theorem zw_1829 : (Cond.instanceMethod ⟨"BlushCourtModel", "ownOf", "(II)I"⟩) ∈ zT := zq_8 149 rfl rfl
theorem zws_6_8 : Cond.selects "BlushCourtModel" ⟨"BlushCourtModel", "ownOf", "(II)I"⟩ ⟨"BlushCourtModel", "ownOf", "(II)I"⟩ ∈ zT := zq_s (q := (⟨"BlushCourtModel", "ownOf", "(II)I"⟩, 27)) (List.mem_append_right _ (List.mem_append_right _ (List.mem_append_right _ (List.mem_append_right _ (List.mem_append_right _ (List.mem_append_left _ (List.mem_of_getElem? (i := 8) rfl)))))))
theorem zw_1834 : (Cond.code ⟨"BlushCourtModel", "passesOn", "(II)I"⟩ prog_14_method_67_code 3 (some .int)) ∈ zT := zq_8 154 rfl rfl
theorem zw_1831 : (Cond.methodLink "BlushCourtModel" 316 ⟨"BlushCourtModel", "passesOn", "(II)I"⟩) ∈ zT := zq_8 151 rfl rfl
theorem zw_1833 : (Cond.instanceMethod ⟨"BlushCourtModel", "passesOn", "(II)I"⟩) ∈ zT := zq_8 153 rfl rfl
theorem zws_6_9 : Cond.selects "BlushCourtModel" ⟨"BlushCourtModel", "passesOn", "(II)I"⟩ ⟨"BlushCourtModel", "passesOn", "(II)I"⟩ ∈ zT := zq_s (q := (⟨"BlushCourtModel", "passesOn", "(II)I"⟩, 27)) (List.mem_append_right _ (List.mem_append_right _ (List.mem_append_right _ (List.mem_append_right _ (List.mem_append_right _ (List.mem_append_left _ (List.mem_of_getElem? (i := 9) rfl)))))))
theorem zw_1822 : (Cond.code ⟨"BlushCourtModel", "whatIsSo", "()I"⟩ prog_14_method_21_code 3 (some .int)) ∈ zT := zq_8 142 rfl rfl
theorem zw_1819 : (Cond.methodLink "BlushCourtModel" 319 ⟨"BlushCourtModel", "whatIsSo", "()I"⟩) ∈ zT := zq_8 139 rfl rfl
theorem zw_1821 : (Cond.instanceMethod ⟨"BlushCourtModel", "whatIsSo", "()I"⟩) ∈ zT := zq_8 141 rfl rfl
theorem zws_6_6 : Cond.selects "BlushCourtModel" ⟨"BlushCourtModel", "whatIsSo", "()I"⟩ ⟨"BlushCourtModel", "whatIsSo", "()I"⟩ ∈ zT := zq_s (q := (⟨"BlushCourtModel", "whatIsSo", "()I"⟩, 27)) (List.mem_append_right _ (List.mem_append_right _ (List.mem_append_right _ (List.mem_append_right _ (List.mem_append_right _ (List.mem_append_left _ (List.mem_of_getElem? (i := 6) rfl)))))))
theorem zw_1818 : (Cond.code ⟨"BlushCourtModel", "saidBy", "(I)I"⟩ prog_14_method_69_code 2 (some .int)) ∈ zT := zq_8 138 rfl rfl
theorem zw_1815 : (Cond.methodLink "BlushCourtModel" 322 ⟨"BlushCourtModel", "saidBy", "(I)I"⟩) ∈ zT := zq_8 135 rfl rfl
theorem zw_1817 : (Cond.instanceMethod ⟨"BlushCourtModel", "saidBy", "(I)I"⟩) ∈ zT := zq_8 137 rfl rfl
theorem zws_6_5 : Cond.selects "BlushCourtModel" ⟨"BlushCourtModel", "saidBy", "(I)I"⟩ ⟨"BlushCourtModel", "saidBy", "(I)I"⟩ ∈ zT := zq_s (q := (⟨"BlushCourtModel", "saidBy", "(I)I"⟩, 27)) (List.mem_append_right _ (List.mem_append_right _ (List.mem_append_right _ (List.mem_append_right _ (List.mem_append_right _ (List.mem_append_left _ (List.mem_of_getElem? (i := 5) rfl)))))))
theorem zw_1826 : (Cond.code ⟨"BlushCourtModel", "lays", "(I)V"⟩ prog_14_method_68_code 6 (none : Option Jvm.ClassFile.FieldType)) ∈ zT := zq_8 146 rfl rfl
theorem zw_1823 : (Cond.methodLink "BlushCourtModel" 325 ⟨"BlushCourtModel", "lays", "(I)V"⟩) ∈ zT := zq_8 143 rfl rfl
theorem zw_1825 : (Cond.instanceMethod ⟨"BlushCourtModel", "lays", "(I)V"⟩) ∈ zT := zq_8 145 rfl rfl
theorem zws_6_7 : Cond.selects "BlushCourtModel" ⟨"BlushCourtModel", "lays", "(I)V"⟩ ⟨"BlushCourtModel", "lays", "(I)V"⟩ ∈ zT := zq_s (q := (⟨"BlushCourtModel", "lays", "(I)V"⟩, 27)) (List.mem_append_right _ (List.mem_append_right _ (List.mem_append_right _ (List.mem_append_right _ (List.mem_append_right _ (List.mem_append_left _ (List.mem_of_getElem? (i := 7) rfl)))))))
theorem zw_1839 : (Cond.code ⟨"BlushCourtModel", "isTold", "(IIII)V"⟩ prog_14_method_71_code 6 (none : Option Jvm.ClassFile.FieldType)) ∈ zT := zq_8 159 rfl rfl
theorem zw_1836 : (Cond.methodLink "BlushCourtModel" 329 ⟨"BlushCourtModel", "isTold", "(IIII)V"⟩) ∈ zT := zq_8 156 rfl rfl
theorem zw_1838 : (Cond.instanceMethod ⟨"BlushCourtModel", "isTold", "(IIII)V"⟩) ∈ zT := zq_8 158 rfl rfl
theorem zws_6_10 : Cond.selects "BlushCourtModel" ⟨"BlushCourtModel", "isTold", "(IIII)V"⟩ ⟨"BlushCourtModel", "isTold", "(IIII)V"⟩ ∈ zT := zq_s (q := (⟨"BlushCourtModel", "isTold", "(IIII)V"⟩, 27)) (List.mem_append_right _ (List.mem_append_right _ (List.mem_append_right _ (List.mem_append_right _ (List.mem_append_right _ (List.mem_append_left _ (List.mem_of_getElem? (i := 10) rfl)))))))
theorem zw_1484 : (Cond.fieldLink "BlushCourtModel" 45 "BlushCourtModel" "fall" "[I") ∈ zT := zq_7 44 rfl rfl
theorem zw_1776 : (Cond.code ⟨"BlushCourtModel", "fallsBy", "(I)I"⟩ prog_14_method_66_code 2 (some .int)) ∈ zT := zq_8 96 rfl rfl
theorem zw_1773 : (Cond.methodLink "BlushCourtModel" 333 ⟨"BlushCourtModel", "fallsBy", "(I)I"⟩) ∈ zT := zq_8 93 rfl rfl
theorem zw_1775 : (Cond.instanceMethod ⟨"BlushCourtModel", "fallsBy", "(I)I"⟩) ∈ zT := zq_8 95 rfl rfl
theorem zws_5_11 : Cond.selects "BlushCourtModel" ⟨"BlushCourtModel", "fallsBy", "(I)I"⟩ ⟨"BlushCourtModel", "fallsBy", "(I)I"⟩ ∈ zT := zq_s (q := (⟨"BlushCourtModel", "fallsBy", "(I)I"⟩, 27)) (List.mem_append_right _ (List.mem_append_right _ (List.mem_append_right _ (List.mem_append_right _ (List.mem_append_left _ (List.mem_of_getElem? (i := 11) rfl))))))
theorem zw_1809 : (Cond.code ⟨"BlushCourtModel", "drawn", "(I)I"⟩ prog_14_method_26_code 2 (some .int)) ∈ zT := zq_8 129 rfl rfl
theorem zw_1806 : (Cond.methodLink "BlushCourtModel" 336 ⟨"BlushCourtModel", "drawn", "(I)I"⟩) ∈ zT := zq_8 126 rfl rfl
theorem zw_1808 : (Cond.instanceMethod ⟨"BlushCourtModel", "drawn", "(I)I"⟩) ∈ zT := zq_8 128 rfl rfl
theorem zws_6_3 : Cond.selects "BlushCourtModel" ⟨"BlushCourtModel", "drawn", "(I)I"⟩ ⟨"BlushCourtModel", "drawn", "(I)I"⟩ ∈ zT := zq_s (q := (⟨"BlushCourtModel", "drawn", "(I)I"⟩, 27)) (List.mem_append_right _ (List.mem_append_right _ (List.mem_append_right _ (List.mem_append_right _ (List.mem_append_right _ (List.mem_append_left _ (List.mem_of_getElem? (i := 3) rfl)))))))
theorem zw_1772 : (Cond.code ⟨"BlushCourtModel", "allFall", "()V"⟩ prog_14_method_73_code 2 (none : Option Jvm.ClassFile.FieldType)) ∈ zT := zq_8 92 rfl rfl
theorem zw_1769 : (Cond.methodLink "BlushCourtModel" 339 ⟨"BlushCourtModel", "allFall", "()V"⟩) ∈ zT := zq_8 89 rfl rfl
theorem zw_1771 : (Cond.instanceMethod ⟨"BlushCourtModel", "allFall", "()V"⟩) ∈ zT := zq_8 91 rfl rfl
theorem zws_5_10 : Cond.selects "BlushCourtModel" ⟨"BlushCourtModel", "allFall", "()V"⟩ ⟨"BlushCourtModel", "allFall", "()V"⟩ ∈ zT := zq_s (q := (⟨"BlushCourtModel", "allFall", "()V"⟩, 27)) (List.mem_append_right _ (List.mem_append_right _ (List.mem_append_right _ (List.mem_append_right _ (List.mem_append_left _ (List.mem_of_getElem? (i := 10) rfl))))))
theorem zw_1814 : (Cond.code ⟨"BlushCourtModel", "isSaid", "(II)I"⟩ prog_14_method_72_code 5 (some .int)) ∈ zT := zq_8 134 rfl rfl
theorem zw_1811 : (Cond.methodLink "BlushCourtModel" 342 ⟨"BlushCourtModel", "isSaid", "(II)I"⟩) ∈ zT := zq_8 131 rfl rfl
theorem zw_1813 : (Cond.instanceMethod ⟨"BlushCourtModel", "isSaid", "(II)I"⟩) ∈ zT := zq_8 133 rfl rfl
theorem zws_6_4 : Cond.selects "BlushCourtModel" ⟨"BlushCourtModel", "isSaid", "(II)I"⟩ ⟨"BlushCourtModel", "isSaid", "(II)I"⟩ ∈ zT := zq_s (q := (⟨"BlushCourtModel", "isSaid", "(II)I"⟩, 27)) (List.mem_append_right _ (List.mem_append_right _ (List.mem_append_right _ (List.mem_append_right _ (List.mem_append_right _ (List.mem_append_left _ (List.mem_of_getElem? (i := 4) rfl)))))))
theorem zw_1843 : (Cond.code ⟨"BlushCourtModel", "blushes", "(I)V"⟩ prog_14_method_74_code 2 (none : Option Jvm.ClassFile.FieldType)) ∈ zT := zq_8 163 rfl rfl
theorem zw_1840 : (Cond.methodLink "BlushCourtModel" 345 ⟨"BlushCourtModel", "blushes", "(I)V"⟩) ∈ zT := zq_8 160 rfl rfl
theorem zw_1842 : (Cond.instanceMethod ⟨"BlushCourtModel", "blushes", "(I)V"⟩) ∈ zT := zq_8 162 rfl rfl
theorem zws_6_11 : Cond.selects "BlushCourtModel" ⟨"BlushCourtModel", "blushes", "(I)V"⟩ ⟨"BlushCourtModel", "blushes", "(I)V"⟩ ∈ zT := zq_s (q := (⟨"BlushCourtModel", "blushes", "(I)V"⟩, 27)) (List.mem_append_right _ (List.mem_append_right _ (List.mem_append_right _ (List.mem_append_right _ (List.mem_append_right _ (List.mem_append_left _ (List.mem_of_getElem? (i := 11) rfl)))))))
theorem zw_1768 : (Cond.code ⟨"BlushCourtModel", "oneMoment", "(Z)I"⟩ prog_14_method_75_code 4 (some .int)) ∈ zT := zq_8 88 rfl rfl
theorem zw_1765 : (Cond.methodLink "BlushCourtModel" 348 ⟨"BlushCourtModel", "oneMoment", "(Z)I"⟩) ∈ zT := zq_8 85 rfl rfl
theorem zw_1767 : (Cond.instanceMethod ⟨"BlushCourtModel", "oneMoment", "(Z)I"⟩) ∈ zT := zq_8 87 rfl rfl
theorem zws_5_9 : Cond.selects "BlushCourtModel" ⟨"BlushCourtModel", "oneMoment", "(Z)I"⟩ ⟨"BlushCourtModel", "oneMoment", "(Z)I"⟩ ∈ zT := zq_s (q := (⟨"BlushCourtModel", "oneMoment", "(Z)I"⟩, 27)) (List.mem_append_right _ (List.mem_append_right _ (List.mem_append_right _ (List.mem_append_right _ (List.mem_append_left _ (List.mem_of_getElem? (i := 9) rfl))))))
theorem zw_1760 : (Cond.code ⟨"BlushCourtModel", "remembers", "()V"⟩ prog_14_method_8_code 2 (none : Option Jvm.ClassFile.FieldType)) ∈ zT := zq_8 80 rfl rfl
theorem zw_1757 : (Cond.methodLink "BlushCourtModel" 351 ⟨"BlushCourtModel", "remembers", "()V"⟩) ∈ zT := zq_8 77 rfl rfl
theorem zw_1759 : (Cond.instanceMethod ⟨"BlushCourtModel", "remembers", "()V"⟩) ∈ zT := zq_8 79 rfl rfl
theorem zws_5_7 : Cond.selects "BlushCourtModel" ⟨"BlushCourtModel", "remembers", "()V"⟩ ⟨"BlushCourtModel", "remembers", "()V"⟩ ∈ zT := zq_s (q := (⟨"BlushCourtModel", "remembers", "()V"⟩, 27)) (List.mem_append_right _ (List.mem_append_right _ (List.mem_append_right _ (List.mem_append_right _ (List.mem_append_left _ (List.mem_of_getElem? (i := 7) rfl))))))
theorem zw_1764 : (Cond.code ⟨"BlushCourtModel", "goesOn", "(IZ)I"⟩ prog_14_method_76_code 5 (some .int)) ∈ zT := zq_8 84 rfl rfl
theorem zw_1761 : (Cond.methodLink "BlushCourtModel" 354 ⟨"BlushCourtModel", "goesOn", "(IZ)I"⟩) ∈ zT := zq_8 81 rfl rfl
theorem zw_1763 : (Cond.instanceMethod ⟨"BlushCourtModel", "goesOn", "(IZ)I"⟩) ∈ zT := zq_8 83 rfl rfl
theorem zws_5_8 : Cond.selects "BlushCourtModel" ⟨"BlushCourtModel", "goesOn", "(IZ)I"⟩ ⟨"BlushCourtModel", "goesOn", "(IZ)I"⟩ ∈ zT := zq_s (q := (⟨"BlushCourtModel", "goesOn", "(IZ)I"⟩, 27)) (List.mem_append_right _ (List.mem_append_right _ (List.mem_append_right _ (List.mem_append_right _ (List.mem_append_left _ (List.mem_of_getElem? (i := 8) rfl))))))
theorem zw_1879 : (Cond.code ⟨"BlushCourtModel", "readBy", "(II)I"⟩ prog_14_method_80_code 3 (some .int)) ∈ zT := zq_8 199 rfl rfl
theorem zw_1876 : (Cond.methodLink "BlushCourtModel" 358 ⟨"BlushCourtModel", "readBy", "(II)I"⟩) ∈ zT := zq_8 196 rfl rfl
theorem zw_1878 : (Cond.instanceMethod ⟨"BlushCourtModel", "readBy", "(II)I"⟩) ∈ zT := zq_8 198 rfl rfl
theorem zws_7_3 : Cond.selects "BlushCourtModel" ⟨"BlushCourtModel", "readBy", "(II)I"⟩ ⟨"BlushCourtModel", "readBy", "(II)I"⟩ ∈ zT := zq_s (q := (⟨"BlushCourtModel", "readBy", "(II)I"⟩, 27)) (List.mem_append_right _ (List.mem_append_right _ (List.mem_append_right _ (List.mem_append_right _ (List.mem_append_right _ (List.mem_append_right _ (List.mem_append_left _ (List.mem_of_getElem? (i := 3) rfl))))))))
theorem zw_1875 : (Cond.code ⟨"BlushCourtModel", "wouldSee", "(III)Z"⟩ prog_14_method_81_code 4 (some .boolean)) ∈ zT := zq_8 195 rfl rfl
theorem zw_1872 : (Cond.methodLink "BlushCourtModel" 361 ⟨"BlushCourtModel", "wouldSee", "(III)Z"⟩) ∈ zT := zq_8 192 rfl rfl
theorem zw_1874 : (Cond.instanceMethod ⟨"BlushCourtModel", "wouldSee", "(III)Z"⟩) ∈ zT := zq_8 194 rfl rfl
theorem zws_7_2 : Cond.selects "BlushCourtModel" ⟨"BlushCourtModel", "wouldSee", "(III)Z"⟩ ⟨"BlushCourtModel", "wouldSee", "(III)Z"⟩ ∈ zT := zq_s (q := (⟨"BlushCourtModel", "wouldSee", "(III)Z"⟩, 27)) (List.mem_append_right _ (List.mem_append_right _ (List.mem_append_right _ (List.mem_append_right _ (List.mem_append_right _ (List.mem_append_right _ (List.mem_append_left _ (List.mem_of_getElem? (i := 2) rfl))))))))
theorem zw_1867 : (Cond.code ⟨"BlushCourtModel", "risesBy", "(II)I"⟩ prog_14_method_70_code 3 (some .int)) ∈ zT := zq_8 187 rfl rfl
theorem zw_1864 : (Cond.methodLink "BlushCourtModel" 364 ⟨"BlushCourtModel", "risesBy", "(II)I"⟩) ∈ zT := zq_8 184 rfl rfl
theorem zw_1866 : (Cond.instanceMethod ⟨"BlushCourtModel", "risesBy", "(II)I"⟩) ∈ zT := zq_8 186 rfl rfl
theorem zws_7_0 : Cond.selects "BlushCourtModel" ⟨"BlushCourtModel", "risesBy", "(II)I"⟩ ⟨"BlushCourtModel", "risesBy", "(II)I"⟩ ∈ zT := zq_s (q := (⟨"BlushCourtModel", "risesBy", "(II)I"⟩, 27)) (List.mem_append_right _ (List.mem_append_right _ (List.mem_append_right _ (List.mem_append_right _ (List.mem_append_right _ (List.mem_append_right _ (List.mem_append_left _ (List.mem_of_getElem? (i := 0) rfl))))))))
theorem zw_1871 : (Cond.code ⟨"BlushCourtModel", "someSees", "(II)Z"⟩ prog_14_method_82_code 5 (some .boolean)) ∈ zT := zq_8 191 rfl rfl
theorem zw_1868 : (Cond.methodLink "BlushCourtModel" 367 ⟨"BlushCourtModel", "someSees", "(II)Z"⟩) ∈ zT := zq_8 188 rfl rfl
theorem zw_1870 : (Cond.instanceMethod ⟨"BlushCourtModel", "someSees", "(II)Z"⟩) ∈ zT := zq_8 190 rfl rfl
theorem zws_7_1 : Cond.selects "BlushCourtModel" ⟨"BlushCourtModel", "someSees", "(II)Z"⟩ ⟨"BlushCourtModel", "someSees", "(II)Z"⟩ ∈ zT := zq_s (q := (⟨"BlushCourtModel", "someSees", "(II)Z"⟩, 27)) (List.mem_append_right _ (List.mem_append_right _ (List.mem_append_right _ (List.mem_append_right _ (List.mem_append_right _ (List.mem_append_right _ (List.mem_append_left _ (List.mem_of_getElem? (i := 1) rfl))))))))
theorem zw_1851 : (Cond.code ⟨"BlushCourtModel", "noWitness", "(I)Z"⟩ prog_14_method_22_code 2 (some .boolean)) ∈ zT := zq_8 171 rfl rfl
theorem zw_1848 : (Cond.methodLink "BlushCourtModel" 370 ⟨"BlushCourtModel", "noWitness", "(I)Z"⟩) ∈ zT := zq_8 168 rfl rfl
theorem zw_1850 : (Cond.instanceMethod ⟨"BlushCourtModel", "noWitness", "(I)Z"⟩) ∈ zT := zq_8 170 rfl rfl
theorem zws_6_12 : Cond.selects "BlushCourtModel" ⟨"BlushCourtModel", "noWitness", "(I)Z"⟩ ⟨"BlushCourtModel", "noWitness", "(I)Z"⟩ ∈ zT := zq_s (q := (⟨"BlushCourtModel", "noWitness", "(I)Z"⟩, 27)) (List.mem_append_right _ (List.mem_append_right _ (List.mem_append_right _ (List.mem_append_right _ (List.mem_append_right _ (List.mem_append_left _ (List.mem_of_getElem? (i := 12) rfl)))))))
theorem zw_1855 : (Cond.code ⟨"BlushCourtModel", "shadesOfAll", "()I"⟩ prog_14_method_78_code 3 (some .int)) ∈ zT := zq_8 175 rfl rfl
theorem zw_1852 : (Cond.methodLink "BlushCourtModel" 373 ⟨"BlushCourtModel", "shadesOfAll", "()I"⟩) ∈ zT := zq_8 172 rfl rfl
theorem zw_1854 : (Cond.instanceMethod ⟨"BlushCourtModel", "shadesOfAll", "()I"⟩) ∈ zT := zq_8 174 rfl rfl
theorem zws_6_13 : Cond.selects "BlushCourtModel" ⟨"BlushCourtModel", "shadesOfAll", "()I"⟩ ⟨"BlushCourtModel", "shadesOfAll", "()I"⟩ ∈ zT := zq_s (q := (⟨"BlushCourtModel", "shadesOfAll", "()I"⟩, 27)) (List.mem_append_right _ (List.mem_append_right _ (List.mem_append_right _ (List.mem_append_right _ (List.mem_append_right _ (List.mem_append_left _ (List.mem_of_getElem? (i := 13) rfl)))))))
theorem zw_1859 : (Cond.code ⟨"BlushCourtModel", "touchedOf", "(I)I"⟩ prog_14_method_79_code 4 (some .int)) ∈ zT := zq_8 179 rfl rfl
theorem zw_1856 : (Cond.methodLink "BlushCourtModel" 376 ⟨"BlushCourtModel", "touchedOf", "(I)I"⟩) ∈ zT := zq_8 176 rfl rfl
theorem zw_1858 : (Cond.instanceMethod ⟨"BlushCourtModel", "touchedOf", "(I)I"⟩) ∈ zT := zq_8 178 rfl rfl
theorem zws_6_14 : Cond.selects "BlushCourtModel" ⟨"BlushCourtModel", "touchedOf", "(I)I"⟩ ⟨"BlushCourtModel", "touchedOf", "(I)I"⟩ ∈ zT := zq_s (q := (⟨"BlushCourtModel", "touchedOf", "(I)I"⟩, 27)) (List.mem_append_right _ (List.mem_append_right _ (List.mem_append_right _ (List.mem_append_right _ (List.mem_append_right _ (List.mem_append_left _ (List.mem_of_getElem? (i := 14) rfl)))))))
theorem zw_1863 : (Cond.code ⟨"BlushCourtModel", "foundOut", "(I)I"⟩ prog_14_method_83_code 4 (some .int)) ∈ zT := zq_8 183 rfl rfl
theorem zw_1860 : (Cond.methodLink "BlushCourtModel" 379 ⟨"BlushCourtModel", "foundOut", "(I)I"⟩) ∈ zT := zq_8 180 rfl rfl
theorem zw_1862 : (Cond.instanceMethod ⟨"BlushCourtModel", "foundOut", "(I)I"⟩) ∈ zT := zq_8 182 rfl rfl
theorem zws_6_15 : Cond.selects "BlushCourtModel" ⟨"BlushCourtModel", "foundOut", "(I)I"⟩ ⟨"BlushCourtModel", "foundOut", "(I)I"⟩ ∈ zT := zq_s (q := (⟨"BlushCourtModel", "foundOut", "(I)I"⟩, 27)) (List.mem_append_right _ (List.mem_append_right _ (List.mem_append_right _ (List.mem_append_right _ (List.mem_append_right _ (List.mem_append_left _ (List.mem_of_getElem? (i := 15) rfl)))))))
theorem zw_1887 : (Cond.code ⟨"BlushCourtModel", "noThing", "(I)Z"⟩ prog_14_method_23_code 2 (some .boolean)) ∈ zT := zq_8 207 rfl rfl
theorem zw_1884 : (Cond.methodLink "BlushCourtModel" 382 ⟨"BlushCourtModel", "noThing", "(I)Z"⟩) ∈ zT := zq_8 204 rfl rfl
theorem zw_1886 : (Cond.instanceMethod ⟨"BlushCourtModel", "noThing", "(I)Z"⟩) ∈ zT := zq_8 206 rfl rfl
theorem zws_7_4 : Cond.selects "BlushCourtModel" ⟨"BlushCourtModel", "noThing", "(I)Z"⟩ ⟨"BlushCourtModel", "noThing", "(I)Z"⟩ ∈ zT := zq_s (q := (⟨"BlushCourtModel", "noThing", "(I)Z"⟩, 27)) (List.mem_append_right _ (List.mem_append_right _ (List.mem_append_right _ (List.mem_append_right _ (List.mem_append_right _ (List.mem_append_right _ (List.mem_append_left _ (List.mem_of_getElem? (i := 4) rfl))))))))
theorem zw_1895 : (Cond.code ⟨"BlushCourtModel", "knownBy", "(I)I"⟩ prog_14_method_121_code 4 (some .int)) ∈ zT := zq_8 215 rfl rfl
theorem zw_1892 : (Cond.methodLink "BlushCourtModel" 388 ⟨"BlushCourtModel", "knownBy", "(I)I"⟩) ∈ zT := zq_8 212 rfl rfl
theorem zw_1894 : (Cond.instanceMethod ⟨"BlushCourtModel", "knownBy", "(I)I"⟩) ∈ zT := zq_8 214 rfl rfl
theorem zws_7_6 : Cond.selects "BlushCourtModel" ⟨"BlushCourtModel", "knownBy", "(I)I"⟩ ⟨"BlushCourtModel", "knownBy", "(I)I"⟩ ∈ zT := zq_s (q := (⟨"BlushCourtModel", "knownBy", "(I)I"⟩, 27)) (List.mem_append_right _ (List.mem_append_right _ (List.mem_append_right _ (List.mem_append_right _ (List.mem_append_right _ (List.mem_append_right _ (List.mem_append_left _ (List.mem_of_getElem? (i := 6) rfl))))))))
theorem zw_1891 : (Cond.code ⟨"BlushCourtModel", "saying", "(I)I"⟩ prog_14_method_85_code 4 (some .int)) ∈ zT := zq_8 211 rfl rfl
theorem zw_1888 : (Cond.methodLink "BlushCourtModel" 385 ⟨"BlushCourtModel", "saying", "(I)I"⟩) ∈ zT := zq_8 208 rfl rfl
theorem zw_1890 : (Cond.instanceMethod ⟨"BlushCourtModel", "saying", "(I)I"⟩) ∈ zT := zq_8 210 rfl rfl
theorem zws_7_5 : Cond.selects "BlushCourtModel" ⟨"BlushCourtModel", "saying", "(I)I"⟩ ⟨"BlushCourtModel", "saying", "(I)I"⟩ ∈ zT := zq_s (q := (⟨"BlushCourtModel", "saying", "(I)I"⟩, 27)) (List.mem_append_right _ (List.mem_append_right _ (List.mem_append_right _ (List.mem_append_right _ (List.mem_append_right _ (List.mem_append_right _ (List.mem_append_left _ (List.mem_of_getElem? (i := 5) rfl))))))))
theorem zw_1931 : (Cond.code ⟨"BlushCourtModel", "noQuestion", "(I)Z"⟩ prog_14_method_24_code 2 (some .boolean)) ∈ zT := zq_9 11 rfl rfl
theorem zw_1928 : (Cond.methodLink "BlushCourtModel" 391 ⟨"BlushCourtModel", "noQuestion", "(I)Z"⟩) ∈ zT := zq_9 8 rfl rfl
theorem zw_1930 : (Cond.instanceMethod ⟨"BlushCourtModel", "noQuestion", "(I)Z"⟩) ∈ zT := zq_9 10 rfl rfl
theorem zws_7_13 : Cond.selects "BlushCourtModel" ⟨"BlushCourtModel", "noQuestion", "(I)Z"⟩ ⟨"BlushCourtModel", "noQuestion", "(I)Z"⟩ ∈ zT := zq_s (q := (⟨"BlushCourtModel", "noQuestion", "(I)Z"⟩, 27)) (List.mem_append_right _ (List.mem_append_right _ (List.mem_append_right _ (List.mem_append_right _ (List.mem_append_right _ (List.mem_append_right _ (List.mem_append_left _ (List.mem_of_getElem? (i := 13) rfl))))))))
theorem zw_1939 : (Cond.code ⟨"BlushCourtModel", "noWoman", "(I)Z"⟩ prog_14_method_25_code 2 (some .boolean)) ∈ zT := zq_9 19 rfl rfl
theorem zw_1936 : (Cond.methodLink "BlushCourtModel" 394 ⟨"BlushCourtModel", "noWoman", "(I)Z"⟩) ∈ zT := zq_9 16 rfl rfl
theorem zw_1938 : (Cond.instanceMethod ⟨"BlushCourtModel", "noWoman", "(I)Z"⟩) ∈ zT := zq_9 18 rfl rfl
theorem zws_7_14 : Cond.selects "BlushCourtModel" ⟨"BlushCourtModel", "noWoman", "(I)Z"⟩ ⟨"BlushCourtModel", "noWoman", "(I)Z"⟩ ∈ zT := zq_s (q := (⟨"BlushCourtModel", "noWoman", "(I)Z"⟩, 27)) (List.mem_append_right _ (List.mem_append_right _ (List.mem_append_right _ (List.mem_append_right _ (List.mem_append_right _ (List.mem_append_right _ (List.mem_append_left _ (List.mem_of_getElem? (i := 14) rfl))))))))
theorem zw_1955 : (Cond.code ⟨"BlushCourtModel", "noTwo", "(II)Z"⟩ prog_14_method_91_code 3 (some .boolean)) ∈ zT := zq_9 35 rfl rfl
theorem zw_1952 : (Cond.methodLink "BlushCourtModel" 397 ⟨"BlushCourtModel", "noTwo", "(II)Z"⟩) ∈ zT := zq_9 32 rfl rfl
theorem zw_1954 : (Cond.instanceMethod ⟨"BlushCourtModel", "noTwo", "(II)Z"⟩) ∈ zT := zq_9 34 rfl rfl
theorem zws_7_15 : Cond.selects "BlushCourtModel" ⟨"BlushCourtModel", "noTwo", "(II)Z"⟩ ⟨"BlushCourtModel", "noTwo", "(II)Z"⟩ ∈ zT := zq_s (q := (⟨"BlushCourtModel", "noTwo", "(II)Z"⟩, 27)) (List.mem_append_right _ (List.mem_append_right _ (List.mem_append_right _ (List.mem_append_right _ (List.mem_append_right _ (List.mem_append_right _ (List.mem_append_left _ (List.mem_of_getElem? (i := 15) rfl))))))))
theorem zw_1963 : (Cond.code ⟨"BlushCourtModel", "isNow", "(II)I"⟩ prog_14_method_93_code 4 (some .int)) ∈ zT := zq_9 43 rfl rfl
theorem zw_1960 : (Cond.methodLink "BlushCourtModel" 400 ⟨"BlushCourtModel", "isNow", "(II)I"⟩) ∈ zT := zq_9 40 rfl rfl
theorem zw_1962 : (Cond.instanceMethod ⟨"BlushCourtModel", "isNow", "(II)I"⟩) ∈ zT := zq_9 42 rfl rfl
theorem zws_8_0 : Cond.selects "BlushCourtModel" ⟨"BlushCourtModel", "isNow", "(II)I"⟩ ⟨"BlushCourtModel", "isNow", "(II)I"⟩ ∈ zT := zq_s (q := (⟨"BlushCourtModel", "isNow", "(II)I"⟩, 27)) (List.mem_append_right _ (List.mem_append_right _ (List.mem_append_right _ (List.mem_append_right _ (List.mem_append_right _ (List.mem_append_right _ (List.mem_append_right _ (List.mem_append_left _ (List.mem_of_getElem? (i := 0) rfl)))))))))
theorem zw_1903 : (Cond.code ⟨"BlushCourtModel", "allThings", "()I"⟩ prog_14_method_20_code 1 (some .int)) ∈ zT := zq_8 223 rfl rfl
theorem zw_1900 : (Cond.methodLink "BlushCourtModel" 403 ⟨"BlushCourtModel", "allThings", "()I"⟩) ∈ zT := zq_8 220 rfl rfl
theorem zw_1902 : (Cond.instanceMethod ⟨"BlushCourtModel", "allThings", "()I"⟩) ∈ zT := zq_8 222 rfl rfl
theorem zws_7_8 : Cond.selects "BlushCourtModel" ⟨"BlushCourtModel", "allThings", "()I"⟩ ⟨"BlushCourtModel", "allThings", "()I"⟩ ∈ zT := zq_s (q := (⟨"BlushCourtModel", "allThings", "()I"⟩, 27)) (List.mem_append_right _ (List.mem_append_right _ (List.mem_append_right _ (List.mem_append_right _ (List.mem_append_right _ (List.mem_append_right _ (List.mem_append_left _ (List.mem_of_getElem? (i := 8) rfl))))))))
theorem zw_1991 : (Cond.code ⟨"BlushCourtModel", "seenBy", "(II)I"⟩ prog_14_method_100_code 5 (some .int)) ∈ zT := zq_9 71 rfl rfl
theorem zw_1988 : (Cond.methodLink "BlushCourtModel" 406 ⟨"BlushCourtModel", "seenBy", "(II)I"⟩) ∈ zT := zq_9 68 rfl rfl
theorem zw_1990 : (Cond.instanceMethod ⟨"BlushCourtModel", "seenBy", "(II)I"⟩) ∈ zT := zq_9 70 rfl rfl
theorem zws_8_1 : Cond.selects "BlushCourtModel" ⟨"BlushCourtModel", "seenBy", "(II)I"⟩ ⟨"BlushCourtModel", "seenBy", "(II)I"⟩ ∈ zT := zq_s (q := (⟨"BlushCourtModel", "seenBy", "(II)I"⟩, 27)) (List.mem_append_right _ (List.mem_append_right _ (List.mem_append_right _ (List.mem_append_right _ (List.mem_append_right _ (List.mem_append_right _ (List.mem_append_right _ (List.mem_append_left _ (List.mem_of_getElem? (i := 1) rfl)))))))))
theorem zw_1999 : (Cond.code ⟨"BlushCourtModel", "givenAway", "(I)I"⟩ prog_14_method_102_code 4 (some .int)) ∈ zT := zq_9 79 rfl rfl
theorem zw_1996 : (Cond.methodLink "BlushCourtModel" 409 ⟨"BlushCourtModel", "givenAway", "(I)I"⟩) ∈ zT := zq_9 76 rfl rfl
theorem zw_1998 : (Cond.instanceMethod ⟨"BlushCourtModel", "givenAway", "(I)I"⟩) ∈ zT := zq_9 78 rfl rfl
theorem zws_8_2 : Cond.selects "BlushCourtModel" ⟨"BlushCourtModel", "givenAway", "(I)I"⟩ ⟨"BlushCourtModel", "givenAway", "(I)I"⟩ ∈ zT := zq_s (q := (⟨"BlushCourtModel", "givenAway", "(I)I"⟩, 27)) (List.mem_append_right _ (List.mem_append_right _ (List.mem_append_right _ (List.mem_append_right _ (List.mem_append_right _ (List.mem_append_right _ (List.mem_append_right _ (List.mem_append_left _ (List.mem_of_getElem? (i := 2) rfl)))))))))
theorem zw_2011 : (Cond.code ⟨"BlushCourtModel", "keepsAll", "()V"⟩ prog_14_method_10_code 2 (none : Option Jvm.ClassFile.FieldType)) ∈ zT := zq_9 91 rfl rfl
theorem zw_2008 : (Cond.methodLink "BlushCourtModel" 412 ⟨"BlushCourtModel", "keepsAll", "()V"⟩) ∈ zT := zq_9 88 rfl rfl
theorem zw_2010 : (Cond.instanceMethod ⟨"BlushCourtModel", "keepsAll", "()V"⟩) ∈ zT := zq_9 90 rfl rfl
theorem zws_8_3 : Cond.selects "BlushCourtModel" ⟨"BlushCourtModel", "keepsAll", "()V"⟩ ⟨"BlushCourtModel", "keepsAll", "()V"⟩ ∈ zT := zq_s (q := (⟨"BlushCourtModel", "keepsAll", "()V"⟩, 27)) (List.mem_append_right _ (List.mem_append_right _ (List.mem_append_right _ (List.mem_append_right _ (List.mem_append_right _ (List.mem_append_right _ (List.mem_append_right _ (List.mem_append_left _ (List.mem_of_getElem? (i := 3) rfl)))))))))
theorem zw_2015 : (Cond.code ⟨"BlushCourtModel", "bringsBack", "()V"⟩ prog_14_method_11_code 2 (none : Option Jvm.ClassFile.FieldType)) ∈ zT := zq_9 95 rfl rfl
theorem zw_2012 : (Cond.methodLink "BlushCourtModel" 415 ⟨"BlushCourtModel", "bringsBack", "()V"⟩) ∈ zT := zq_9 92 rfl rfl
theorem zw_2014 : (Cond.instanceMethod ⟨"BlushCourtModel", "bringsBack", "()V"⟩) ∈ zT := zq_9 94 rfl rfl
theorem zws_8_4 : Cond.selects "BlushCourtModel" ⟨"BlushCourtModel", "bringsBack", "()V"⟩ ⟨"BlushCourtModel", "bringsBack", "()V"⟩ ∈ zT := zq_s (q := (⟨"BlushCourtModel", "bringsBack", "()V"⟩, 27)) (List.mem_append_right _ (List.mem_append_right _ (List.mem_append_right _ (List.mem_append_right _ (List.mem_append_right _ (List.mem_append_right _ (List.mem_append_right _ (List.mem_append_left _ (List.mem_of_getElem? (i := 4) rfl)))))))))
theorem zw_1485 : (Cond.fieldLink "BlushCourtModel" 48 "BlushCourtModel" "risen" "[I") ∈ zT := zq_7 45 rfl rfl
theorem zw_1906 : (Cond.code ⟨"BlushCourtModel", "risenAt", "(III)I"⟩ prog_14_method_108_code 3 (some .int)) ∈ zT := zq_8 226 rfl rfl
theorem zw_1904 : (Cond.methodLink "BlushCourtModel" 418 ⟨"BlushCourtModel", "risenAt", "(III)I"⟩) ∈ zT := zq_8 224 rfl rfl
theorem zw_1905 : (Cond.static ⟨"BlushCourtModel", "risenAt", "(III)I"⟩) ∈ zT := zq_8 225 rfl rfl
theorem zw_2031 : (Cond.code ⟨"BlushCourtModel", "isRows", "()Z"⟩ prog_14_method_111_code 3 (some .boolean)) ∈ zT := zq_9 111 rfl rfl
theorem zw_2028 : (Cond.methodLink "BlushCourtModel" 421 ⟨"BlushCourtModel", "isRows", "()Z"⟩) ∈ zT := zq_9 108 rfl rfl
theorem zw_2030 : (Cond.instanceMethod ⟨"BlushCourtModel", "isRows", "()Z"⟩) ∈ zT := zq_9 110 rfl rfl
theorem zws_8_5 : Cond.selects "BlushCourtModel" ⟨"BlushCourtModel", "isRows", "()Z"⟩ ⟨"BlushCourtModel", "isRows", "()Z"⟩ ∈ zT := zq_s (q := (⟨"BlushCourtModel", "isRows", "()Z"⟩, 27)) (List.mem_append_right _ (List.mem_append_right _ (List.mem_append_right _ (List.mem_append_right _ (List.mem_append_right _ (List.mem_append_right _ (List.mem_append_right _ (List.mem_append_left _ (List.mem_of_getElem? (i := 5) rfl)))))))))
theorem zw_1899 : (Cond.code ⟨"BlushCourtModel", "laysWorlds", "()V"⟩ prog_14_method_109_code 4 (none : Option Jvm.ClassFile.FieldType)) ∈ zT := zq_8 219 rfl rfl
theorem zw_1896 : (Cond.methodLink "BlushCourtModel" 424 ⟨"BlushCourtModel", "laysWorlds", "()V"⟩) ∈ zT := zq_8 216 rfl rfl
theorem zw_1898 : (Cond.instanceMethod ⟨"BlushCourtModel", "laysWorlds", "()V"⟩) ∈ zT := zq_8 218 rfl rfl
theorem zws_7_7 : Cond.selects "BlushCourtModel" ⟨"BlushCourtModel", "laysWorlds", "()V"⟩ ⟨"BlushCourtModel", "laysWorlds", "()V"⟩ ∈ zT := zq_s (q := (⟨"BlushCourtModel", "laysWorlds", "()V"⟩, 27)) (List.mem_append_right _ (List.mem_append_right _ (List.mem_append_right _ (List.mem_append_right _ (List.mem_append_right _ (List.mem_append_right _ (List.mem_append_left _ (List.mem_of_getElem? (i := 7) rfl))))))))
theorem zw_2035 : (Cond.code ⟨"BlushCourtModel", "fitsRows", "(I)Z"⟩ prog_14_method_112_code 4 (some .boolean)) ∈ zT := zq_9 115 rfl rfl
theorem zw_2032 : (Cond.methodLink "BlushCourtModel" 427 ⟨"BlushCourtModel", "fitsRows", "(I)Z"⟩) ∈ zT := zq_9 112 rfl rfl
theorem zw_2034 : (Cond.instanceMethod ⟨"BlushCourtModel", "fitsRows", "(I)Z"⟩) ∈ zT := zq_9 114 rfl rfl
theorem zws_8_6 : Cond.selects "BlushCourtModel" ⟨"BlushCourtModel", "fitsRows", "(I)Z"⟩ ⟨"BlushCourtModel", "fitsRows", "(I)Z"⟩ ∈ zT := zq_s (q := (⟨"BlushCourtModel", "fitsRows", "(I)Z"⟩, 27)) (List.mem_append_right _ (List.mem_append_right _ (List.mem_append_right _ (List.mem_append_right _ (List.mem_append_right _ (List.mem_append_right _ (List.mem_append_right _ (List.mem_append_left _ (List.mem_of_getElem? (i := 6) rfl)))))))))
theorem zw_1486 : (Cond.fieldLink "BlushCourtModel" 51 "BlushCourtModel" "fitting" "[Z") ∈ zT := zq_7 46 rfl rfl
theorem zw_1918 : (Cond.code ⟨"BlushCourtModel", "alikeBy", "(III)Z"⟩ prog_14_method_110_code 6 (some .boolean)) ∈ zT := zq_8 238 rfl rfl
theorem zw_1915 : (Cond.methodLink "BlushCourtModel" 430 ⟨"BlushCourtModel", "alikeBy", "(III)Z"⟩) ∈ zT := zq_8 235 rfl rfl
theorem zw_1917 : (Cond.instanceMethod ⟨"BlushCourtModel", "alikeBy", "(III)Z"⟩) ∈ zT := zq_8 237 rfl rfl
theorem zws_7_11 : Cond.selects "BlushCourtModel" ⟨"BlushCourtModel", "alikeBy", "(III)Z"⟩ ⟨"BlushCourtModel", "alikeBy", "(III)Z"⟩ ∈ zT := zq_s (q := (⟨"BlushCourtModel", "alikeBy", "(III)Z"⟩, 27)) (List.mem_append_right _ (List.mem_append_right _ (List.mem_append_right _ (List.mem_append_right _ (List.mem_append_right _ (List.mem_append_right _ (List.mem_append_left _ (List.mem_of_getElem? (i := 11) rfl))))))))
theorem zw_2048 : (Cond.constant "BlushCourtModel" 433 (1000000 : Int32)) ∈ zT := zq_9 128 rfl rfl
theorem zw_2052 : (Cond.code ⟨"BlushCourtModel", "partBy", "(I)I"⟩ prog_14_method_116_code 6 (some .int)) ∈ zT := zq_9 132 rfl rfl
theorem zw_2049 : (Cond.methodLink "BlushCourtModel" 434 ⟨"BlushCourtModel", "partBy", "(I)I"⟩) ∈ zT := zq_9 129 rfl rfl
theorem zw_2051 : (Cond.instanceMethod ⟨"BlushCourtModel", "partBy", "(I)I"⟩) ∈ zT := zq_9 131 rfl rfl
theorem zws_8_7 : Cond.selects "BlushCourtModel" ⟨"BlushCourtModel", "partBy", "(I)I"⟩ ⟨"BlushCourtModel", "partBy", "(I)I"⟩ ∈ zT := zq_s (q := (⟨"BlushCourtModel", "partBy", "(I)I"⟩, 27)) (List.mem_append_right _ (List.mem_append_right _ (List.mem_append_right _ (List.mem_append_right _ (List.mem_append_right _ (List.mem_append_right _ (List.mem_append_right _ (List.mem_append_left _ (List.mem_of_getElem? (i := 7) rfl)))))))))
theorem zw_1487 : (Cond.fieldLink "BlushCourtModel" 55 "BlushCourtModel" "mustHave" "[Z") ∈ zT := zq_7 47 rfl rfl
theorem zw_1914 : (Cond.code ⟨"BlushCourtModel", "partedBy", "(II)I"⟩ prog_14_method_118_code 5 (some .int)) ∈ zT := zq_8 234 rfl rfl
theorem zw_1911 : (Cond.methodLink "BlushCourtModel" 437 ⟨"BlushCourtModel", "partedBy", "(II)I"⟩) ∈ zT := zq_8 231 rfl rfl
theorem zw_1913 : (Cond.instanceMethod ⟨"BlushCourtModel", "partedBy", "(II)I"⟩) ∈ zT := zq_8 233 rfl rfl
theorem zws_7_10 : Cond.selects "BlushCourtModel" ⟨"BlushCourtModel", "partedBy", "(II)I"⟩ ⟨"BlushCourtModel", "partedBy", "(II)I"⟩ ∈ zT := zq_s (q := (⟨"BlushCourtModel", "partedBy", "(II)I"⟩, 27)) (List.mem_append_right _ (List.mem_append_right _ (List.mem_append_right _ (List.mem_append_right _ (List.mem_append_right _ (List.mem_append_right _ (List.mem_append_left _ (List.mem_of_getElem? (i := 10) rfl))))))))
theorem zw_1910 : (Cond.code ⟨"BlushCourtModel", "laysMusts", "(I)V"⟩ prog_14_method_119_code 4 (none : Option Jvm.ClassFile.FieldType)) ∈ zT := zq_8 230 rfl rfl
theorem zw_1907 : (Cond.methodLink "BlushCourtModel" 440 ⟨"BlushCourtModel", "laysMusts", "(I)V"⟩) ∈ zT := zq_8 227 rfl rfl
theorem zw_1909 : (Cond.instanceMethod ⟨"BlushCourtModel", "laysMusts", "(I)V"⟩) ∈ zT := zq_8 229 rfl rfl
theorem zws_7_9 : Cond.selects "BlushCourtModel" ⟨"BlushCourtModel", "laysMusts", "(I)V"⟩ ⟨"BlushCourtModel", "laysMusts", "(I)V"⟩ ∈ zT := zq_s (q := (⟨"BlushCourtModel", "laysMusts", "(I)V"⟩, 27)) (List.mem_append_right _ (List.mem_append_right _ (List.mem_append_right _ (List.mem_append_right _ (List.mem_append_right _ (List.mem_append_right _ (List.mem_append_left _ (List.mem_of_getElem? (i := 9) rfl))))))))
theorem zw_1919 : (Cond.methodLink "BlushCourtModel" 443 ⟨"java/lang/Integer", "bitCount", "(I)I"⟩) ∈ zT := zq_8 239 rfl rfl
theorem zw_1923 : (Cond.code ⟨"BlushCourtModel", "tellsAll", "(I)Z"⟩ prog_14_method_120_code 4 (some .boolean)) ∈ zT := zq_9 3 rfl rfl
theorem zw_1920 : (Cond.methodLink "BlushCourtModel" 448 ⟨"BlushCourtModel", "tellsAll", "(I)Z"⟩) ∈ zT := zq_9 0 rfl rfl
theorem zw_1922 : (Cond.instanceMethod ⟨"BlushCourtModel", "tellsAll", "(I)Z"⟩) ∈ zT := zq_9 2 rfl rfl
theorem zws_7_12 : Cond.selects "BlushCourtModel" ⟨"BlushCourtModel", "tellsAll", "(I)Z"⟩ ⟨"BlushCourtModel", "tellsAll", "(I)Z"⟩ ∈ zT := zq_s (q := (⟨"BlushCourtModel", "tellsAll", "(I)Z"⟩, 27)) (List.mem_append_right _ (List.mem_append_right _ (List.mem_append_right _ (List.mem_append_right _ (List.mem_append_right _ (List.mem_append_right _ (List.mem_append_left _ (List.mem_of_getElem? (i := 12) rfl))))))))
theorem zw_1488 : (Cond.fieldLink "BlushCourtModel" 58 "BlushCourtModel" "row" "[I") ∈ zT := zq_7 48 rfl rfl
theorem zw_2076 : (Cond.code ⟨"BlushCourtModel", "isTouched", "(II)Z"⟩ prog_14_method_124_code 3 (some .boolean)) ∈ zT := zq_9 156 rfl rfl
theorem zw_2073 : (Cond.methodLink "BlushCourtModel" 451 ⟨"BlushCourtModel", "isTouched", "(II)Z"⟩) ∈ zT := zq_9 153 rfl rfl
theorem zw_2075 : (Cond.instanceMethod ⟨"BlushCourtModel", "isTouched", "(II)Z"⟩) ∈ zT := zq_9 155 rfl rfl
theorem zws_8_10 : Cond.selects "BlushCourtModel" ⟨"BlushCourtModel", "isTouched", "(II)Z"⟩ ⟨"BlushCourtModel", "isTouched", "(II)Z"⟩ ∈ zT := zq_s (q := (⟨"BlushCourtModel", "isTouched", "(II)Z"⟩, 27)) (List.mem_append_right _ (List.mem_append_right _ (List.mem_append_right _ (List.mem_append_right _ (List.mem_append_right _ (List.mem_append_right _ (List.mem_append_right _ (List.mem_append_left _ (List.mem_of_getElem? (i := 10) rfl)))))))))
theorem zw_2068 : (Cond.code ⟨"BlushCourtModel", "laysRow", "()V"⟩ prog_14_method_126_code 2 (none : Option Jvm.ClassFile.FieldType)) ∈ zT := zq_9 148 rfl rfl
theorem zw_2065 : (Cond.methodLink "BlushCourtModel" 454 ⟨"BlushCourtModel", "laysRow", "()V"⟩) ∈ zT := zq_9 145 rfl rfl
theorem zw_2067 : (Cond.instanceMethod ⟨"BlushCourtModel", "laysRow", "()V"⟩) ∈ zT := zq_9 147 rfl rfl
theorem zws_8_8 : Cond.selects "BlushCourtModel" ⟨"BlushCourtModel", "laysRow", "()V"⟩ ⟨"BlushCourtModel", "laysRow", "()V"⟩ ∈ zT := zq_s (q := (⟨"BlushCourtModel", "laysRow", "()V"⟩, 27)) (List.mem_append_right _ (List.mem_append_right _ (List.mem_append_right _ (List.mem_append_right _ (List.mem_append_right _ (List.mem_append_right _ (List.mem_append_right _ (List.mem_append_left _ (List.mem_of_getElem? (i := 8) rfl)))))))))
theorem zw_2072 : (Cond.code ⟨"BlushCourtModel", "sharedIn", "(I)I"⟩ prog_14_method_125_code 4 (some .int)) ∈ zT := zq_9 152 rfl rfl
theorem zw_2069 : (Cond.methodLink "BlushCourtModel" 457 ⟨"BlushCourtModel", "sharedIn", "(I)I"⟩) ∈ zT := zq_9 149 rfl rfl
theorem zw_2071 : (Cond.instanceMethod ⟨"BlushCourtModel", "sharedIn", "(I)I"⟩) ∈ zT := zq_9 151 rfl rfl
theorem zws_8_9 : Cond.selects "BlushCourtModel" ⟨"BlushCourtModel", "sharedIn", "(I)I"⟩ ⟨"BlushCourtModel", "sharedIn", "(I)I"⟩ ∈ zT := zq_s (q := (⟨"BlushCourtModel", "sharedIn", "(I)I"⟩, 27)) (List.mem_append_right _ (List.mem_append_right _ (List.mem_append_right _ (List.mem_append_right _ (List.mem_append_right _ (List.mem_append_right _ (List.mem_append_right _ (List.mem_append_left _ (List.mem_of_getElem? (i := 9) rfl)))))))))
theorem zw_2088 : (Cond.code ⟨"BlushCourtModel", "laysOrder", "(I)Z"⟩ prog_14_method_128_code 5 (some .boolean)) ∈ zT := zq_9 168 rfl rfl
theorem zw_2085 : (Cond.methodLink "BlushCourtModel" 460 ⟨"BlushCourtModel", "laysOrder", "(I)Z"⟩) ∈ zT := zq_9 165 rfl rfl
theorem zw_2087 : (Cond.instanceMethod ⟨"BlushCourtModel", "laysOrder", "(I)Z"⟩) ∈ zT := zq_9 167 rfl rfl
theorem zws_8_12 : Cond.selects "BlushCourtModel" ⟨"BlushCourtModel", "laysOrder", "(I)Z"⟩ ⟨"BlushCourtModel", "laysOrder", "(I)Z"⟩ ∈ zT := zq_s (q := (⟨"BlushCourtModel", "laysOrder", "(I)Z"⟩, 27)) (List.mem_append_right _ (List.mem_append_right _ (List.mem_append_right _ (List.mem_append_right _ (List.mem_append_right _ (List.mem_append_right _ (List.mem_append_right _ (List.mem_append_left _ (List.mem_of_getElem? (i := 12) rfl)))))))))
theorem zw_2092 : (Cond.code ⟨"BlushCourtModel", "changes", "()I"⟩ prog_14_method_129_code 4 (some .int)) ∈ zT := zq_9 172 rfl rfl
theorem zw_2089 : (Cond.methodLink "BlushCourtModel" 463 ⟨"BlushCourtModel", "changes", "()I"⟩) ∈ zT := zq_9 169 rfl rfl
theorem zw_2091 : (Cond.instanceMethod ⟨"BlushCourtModel", "changes", "()I"⟩) ∈ zT := zq_9 171 rfl rfl
theorem zws_8_13 : Cond.selects "BlushCourtModel" ⟨"BlushCourtModel", "changes", "()I"⟩ ⟨"BlushCourtModel", "changes", "()I"⟩ ∈ zT := zq_s (q := (⟨"BlushCourtModel", "changes", "()I"⟩, 27)) (List.mem_append_right _ (List.mem_append_right _ (List.mem_append_right _ (List.mem_append_right _ (List.mem_append_right _ (List.mem_append_right _ (List.mem_append_right _ (List.mem_append_left _ (List.mem_of_getElem? (i := 13) rfl)))))))))
theorem zw_1489 : (Cond.fieldLink "BlushCourtModel" 61 "BlushCourtModel" "best" "[I") ∈ zT := zq_7 49 rfl rfl
theorem zw_2084 : (Cond.code ⟨"BlushCourtModel", "bestRow", "(I)I"⟩ prog_14_method_130_code 9 (some .int)) ∈ zT := zq_9 164 rfl rfl
theorem zw_2081 : (Cond.methodLink "BlushCourtModel" 466 ⟨"BlushCourtModel", "bestRow", "(I)I"⟩) ∈ zT := zq_9 161 rfl rfl
theorem zw_2083 : (Cond.instanceMethod ⟨"BlushCourtModel", "bestRow", "(I)I"⟩) ∈ zT := zq_9 163 rfl rfl
theorem zws_8_11 : Cond.selects "BlushCourtModel" ⟨"BlushCourtModel", "bestRow", "(I)I"⟩ ⟨"BlushCourtModel", "bestRow", "(I)I"⟩ ∈ zT := zq_s (q := (⟨"BlushCourtModel", "bestRow", "(I)I"⟩, 27)) (List.mem_append_right _ (List.mem_append_right _ (List.mem_append_right _ (List.mem_append_right _ (List.mem_append_right _ (List.mem_append_right _ (List.mem_append_right _ (List.mem_append_left _ (List.mem_of_getElem? (i := 11) rfl)))))))))
theorem zw_2112 : (Cond.code ⟨"BlushCourtModel", "asWritten", "(III)Z"⟩ prog_14_method_134_code 6 (some .boolean)) ∈ zT := zq_9 192 rfl rfl
theorem zw_2109 : (Cond.methodLink "BlushCourtModel" 469 ⟨"BlushCourtModel", "asWritten", "(III)Z"⟩) ∈ zT := zq_9 189 rfl rfl
theorem zw_2111 : (Cond.instanceMethod ⟨"BlushCourtModel", "asWritten", "(III)Z"⟩) ∈ zT := zq_9 191 rfl rfl
theorem zws_9_0 : Cond.selects "BlushCourtModel" ⟨"BlushCourtModel", "asWritten", "(III)Z"⟩ ⟨"BlushCourtModel", "asWritten", "(III)Z"⟩ ∈ zT := zq_s (q := (⟨"BlushCourtModel", "asWritten", "(III)Z"⟩, 27)) (List.mem_append_right _ (List.mem_append_right _ (List.mem_append_right _ (List.mem_append_right _ (List.mem_append_right _ (List.mem_append_right _ (List.mem_append_right _ (List.mem_append_right _ (List.mem_of_getElem? (i := 0) rfl)))))))))
theorem zw_2104 : (Cond.code ⟨"BlushCourtModel", "isWritten", "()Z"⟩ prog_14_method_133_code 3 (some .boolean)) ∈ zT := zq_9 184 rfl rfl
theorem zw_2101 : (Cond.methodLink "BlushCourtModel" 472 ⟨"BlushCourtModel", "isWritten", "()Z"⟩) ∈ zT := zq_9 181 rfl rfl
theorem zw_2103 : (Cond.instanceMethod ⟨"BlushCourtModel", "isWritten", "()Z"⟩) ∈ zT := zq_9 183 rfl rfl
theorem zws_8_14 : Cond.selects "BlushCourtModel" ⟨"BlushCourtModel", "isWritten", "()Z"⟩ ⟨"BlushCourtModel", "isWritten", "()Z"⟩ ∈ zT := zq_s (q := (⟨"BlushCourtModel", "isWritten", "()Z"⟩, 27)) (List.mem_append_right _ (List.mem_append_right _ (List.mem_append_right _ (List.mem_append_right _ (List.mem_append_right _ (List.mem_append_right _ (List.mem_append_right _ (List.mem_append_left _ (List.mem_of_getElem? (i := 14) rfl)))))))))
theorem zw_2108 : (Cond.code ⟨"BlushCourtModel", "shadesLeft", "(II)I"⟩ prog_14_method_135_code 5 (some .int)) ∈ zT := zq_9 188 rfl rfl
theorem zw_2105 : (Cond.methodLink "BlushCourtModel" 475 ⟨"BlushCourtModel", "shadesLeft", "(II)I"⟩) ∈ zT := zq_9 185 rfl rfl
theorem zw_2107 : (Cond.instanceMethod ⟨"BlushCourtModel", "shadesLeft", "(II)I"⟩) ∈ zT := zq_9 187 rfl rfl
theorem zws_8_15 : Cond.selects "BlushCourtModel" ⟨"BlushCourtModel", "shadesLeft", "(II)I"⟩ ⟨"BlushCourtModel", "shadesLeft", "(II)I"⟩ ∈ zT := zq_s (q := (⟨"BlushCourtModel", "shadesLeft", "(II)I"⟩, 27)) (List.mem_append_right _ (List.mem_append_right _ (List.mem_append_right _ (List.mem_append_right _ (List.mem_append_right _ (List.mem_append_right _ (List.mem_append_right _ (List.mem_append_left _ (List.mem_of_getElem? (i := 15) rfl)))))))))
theorem zw_2146 : (Cond.code ⟨"java/lang/Integer", "numberOfTrailingZeros", "(I)I"⟩ prog_21_method_48_code 2 (some .int)) ∈ zT := zq_9 226 rfl rfl
theorem zw_2144 : (Cond.methodLink "BlushCourtModel" 478 ⟨"java/lang/Integer", "numberOfTrailingZeros", "(I)I"⟩) ∈ zT := zq_9 224 rfl rfl
theorem zw_2145 : (Cond.static ⟨"java/lang/Integer", "numberOfTrailingZeros", "(I)I"⟩) ∈ zT := zq_9 225 rfl rfl
theorem zw_2143 : (Cond.code ⟨"BlushCourtModel", "firstOf", "(I)I"⟩ prog_14_method_142_code 1 (some .int)) ∈ zT := zq_9 223 rfl rfl
theorem zw_2141 : (Cond.methodLink "BlushCourtModel" 481 ⟨"BlushCourtModel", "firstOf", "(I)I"⟩) ∈ zT := zq_9 221 rfl rfl
theorem zw_2142 : (Cond.static ⟨"BlushCourtModel", "firstOf", "(I)I"⟩) ∈ zT := zq_9 222 rfl rfl
theorem zw_2151 : (Cond.code ⟨"BlushCourtModel", "unlike", "(II)I"⟩ prog_14_method_141_code 5 (some .int)) ∈ zT := zq_9 231 rfl rfl
theorem zw_2148 : (Cond.methodLink "BlushCourtModel" 484 ⟨"BlushCourtModel", "unlike", "(II)I"⟩) ∈ zT := zq_9 228 rfl rfl
theorem zw_2150 : (Cond.instanceMethod ⟨"BlushCourtModel", "unlike", "(II)I"⟩) ∈ zT := zq_9 230 rfl rfl
theorem zws_9_3 : Cond.selects "BlushCourtModel" ⟨"BlushCourtModel", "unlike", "(II)I"⟩ ⟨"BlushCourtModel", "unlike", "(II)I"⟩ ∈ zT := zq_s (q := (⟨"BlushCourtModel", "unlike", "(II)I"⟩, 27)) (List.mem_append_right _ (List.mem_append_right _ (List.mem_append_right _ (List.mem_append_right _ (List.mem_append_right _ (List.mem_append_right _ (List.mem_append_right _ (List.mem_append_right _ (List.mem_of_getElem? (i := 3) rfl)))))))))
theorem zw_1490 : (Cond.fieldLink "BlushCourtModel" 64 "BlushCourtModel" "unlikely" "[I") ∈ zT := zq_7 50 rfl rfl
theorem zw_2140 : (Cond.code ⟨"BlushCourtModel", "unlikelyBy", "(II)I"⟩ prog_14_method_143_code 5 (some .int)) ∈ zT := zq_9 220 rfl rfl
theorem zw_2137 : (Cond.methodLink "BlushCourtModel" 487 ⟨"BlushCourtModel", "unlikelyBy", "(II)I"⟩) ∈ zT := zq_9 217 rfl rfl
theorem zw_2139 : (Cond.instanceMethod ⟨"BlushCourtModel", "unlikelyBy", "(II)I"⟩) ∈ zT := zq_9 219 rfl rfl
theorem zws_9_2 : Cond.selects "BlushCourtModel" ⟨"BlushCourtModel", "unlikelyBy", "(II)I"⟩ ⟨"BlushCourtModel", "unlikelyBy", "(II)I"⟩ ∈ zT := zq_s (q := (⟨"BlushCourtModel", "unlikelyBy", "(II)I"⟩, 27)) (List.mem_append_right _ (List.mem_append_right _ (List.mem_append_right _ (List.mem_append_right _ (List.mem_append_right _ (List.mem_append_right _ (List.mem_append_right _ (List.mem_append_right _ (List.mem_of_getElem? (i := 2) rfl)))))))))
theorem zw_2136 : (Cond.code ⟨"BlushCourtModel", "laysUnlikely", "()V"⟩ prog_14_method_144_code 4 (none : Option Jvm.ClassFile.FieldType)) ∈ zT := zq_9 216 rfl rfl
theorem zw_2133 : (Cond.methodLink "BlushCourtModel" 490 ⟨"BlushCourtModel", "laysUnlikely", "()V"⟩) ∈ zT := zq_9 213 rfl rfl
theorem zw_2135 : (Cond.instanceMethod ⟨"BlushCourtModel", "laysUnlikely", "()V"⟩) ∈ zT := zq_9 215 rfl rfl
theorem zws_9_1 : Cond.selects "BlushCourtModel" ⟨"BlushCourtModel", "laysUnlikely", "()V"⟩ ⟨"BlushCourtModel", "laysUnlikely", "()V"⟩ ∈ zT := zq_s (q := (⟨"BlushCourtModel", "laysUnlikely", "()V"⟩, 27)) (List.mem_append_right _ (List.mem_append_right _ (List.mem_append_right _ (List.mem_append_right _ (List.mem_append_right _ (List.mem_append_right _ (List.mem_append_right _ (List.mem_append_right _ (List.mem_of_getElem? (i := 1) rfl)))))))))
theorem zw_2167 : (Cond.code ⟨"BlushCourtModel", "witnessHas", "(IIII)I"⟩ prog_14_method_148_code 5 (some .int)) ∈ zT := zq_10 7 rfl rfl
theorem zw_2164 : (Cond.methodLink "BlushCourtModel" 493 ⟨"BlushCourtModel", "witnessHas", "(IIII)I"⟩) ∈ zT := zq_10 4 rfl rfl
theorem zw_2166 : (Cond.instanceMethod ⟨"BlushCourtModel", "witnessHas", "(IIII)I"⟩) ∈ zT := zq_10 6 rfl rfl
theorem zws_9_4 : Cond.selects "BlushCourtModel" ⟨"BlushCourtModel", "witnessHas", "(IIII)I"⟩ ⟨"BlushCourtModel", "witnessHas", "(IIII)I"⟩ ∈ zT := zq_s (q := (⟨"BlushCourtModel", "witnessHas", "(IIII)I"⟩, 27)) (List.mem_append_right _ (List.mem_append_right _ (List.mem_append_right _ (List.mem_append_right _ (List.mem_append_right _ (List.mem_append_right _ (List.mem_append_right _ (List.mem_append_right _ (List.mem_of_getElem? (i := 4) rfl)))))))))
theorem zw_2171 : (Cond.code ⟨"BlushCourtModel", "courtHas", "(III)I"⟩ prog_14_method_149_code 4 (some .int)) ∈ zT := zq_10 11 rfl rfl
theorem zw_2168 : (Cond.methodLink "BlushCourtModel" 496 ⟨"BlushCourtModel", "courtHas", "(III)I"⟩) ∈ zT := zq_10 8 rfl rfl
theorem zw_2170 : (Cond.instanceMethod ⟨"BlushCourtModel", "courtHas", "(III)I"⟩) ∈ zT := zq_10 10 rfl rfl
theorem zws_9_5 : Cond.selects "BlushCourtModel" ⟨"BlushCourtModel", "courtHas", "(III)I"⟩ ⟨"BlushCourtModel", "courtHas", "(III)I"⟩ ∈ zT := zq_s (q := (⟨"BlushCourtModel", "courtHas", "(III)I"⟩, 27)) (List.mem_append_right _ (List.mem_append_right _ (List.mem_append_right _ (List.mem_append_right _ (List.mem_append_right _ (List.mem_append_right _ (List.mem_append_right _ (List.mem_append_right _ (List.mem_of_getElem? (i := 5) rfl)))))))))
theorem zw_1491 : (Cond.fieldLink "BlushCourtModel" 67 "BlushCourtModel" "ways" "[J") ∈ zT := zq_7 51 rfl rfl
theorem zw_2177 : (Cond.constantLong "BlushCourtModel" 501 (10000 : Int64)) ∈ zT := zq_10 17 rfl rfl
theorem zw_2176 : (Cond.constantLong "BlushCourtModel" 499 (100 : Int64)) ∈ zT := zq_10 16 rfl rfl
theorem zw_2200 : (Cond.code ⟨"BlushCourtModel", "noAhead", "(I)Z"⟩ prog_14_method_156_code 1 (some .boolean)) ∈ zT := zq_10 40 rfl rfl
theorem zw_2198 : (Cond.methodLink "BlushCourtModel" 503 ⟨"BlushCourtModel", "noAhead", "(I)Z"⟩) ∈ zT := zq_10 38 rfl rfl
theorem zw_2199 : (Cond.static ⟨"BlushCourtModel", "noAhead", "(I)Z"⟩) ∈ zT := zq_10 39 rfl rfl
theorem zw_2208 : (Cond.code ⟨"BlushCourtModel", "redOnes", "()I"⟩ prog_14_method_158_code 3 (some .int)) ∈ zT := zq_10 48 rfl rfl
theorem zw_2205 : (Cond.methodLink "BlushCourtModel" 506 ⟨"BlushCourtModel", "redOnes", "()I"⟩) ∈ zT := zq_10 45 rfl rfl
theorem zw_2207 : (Cond.instanceMethod ⟨"BlushCourtModel", "redOnes", "()I"⟩) ∈ zT := zq_10 47 rfl rfl
theorem zws_9_6 : Cond.selects "BlushCourtModel" ⟨"BlushCourtModel", "redOnes", "()I"⟩ ⟨"BlushCourtModel", "redOnes", "()I"⟩ ∈ zT := zq_s (q := (⟨"BlushCourtModel", "redOnes", "()I"⟩, 27)) (List.mem_append_right _ (List.mem_append_right _ (List.mem_append_right _ (List.mem_append_right _ (List.mem_append_right _ (List.mem_append_right _ (List.mem_append_right _ (List.mem_append_right _ (List.mem_of_getElem? (i := 6) rfl)))))))))
theorem zw_2220 : (Cond.code ⟨"BlushCourtModel", "ofLog", "(II)I"⟩ prog_14_method_161_code 3 (some .int)) ∈ zT := zq_10 60 rfl rfl
theorem zw_2217 : (Cond.methodLink "BlushCourtModel" 509 ⟨"BlushCourtModel", "ofLog", "(II)I"⟩) ∈ zT := zq_10 57 rfl rfl
theorem zw_2219 : (Cond.instanceMethod ⟨"BlushCourtModel", "ofLog", "(II)I"⟩) ∈ zT := zq_10 59 rfl rfl
theorem zws_9_7 : Cond.selects "BlushCourtModel" ⟨"BlushCourtModel", "ofLog", "(II)I"⟩ ⟨"BlushCourtModel", "ofLog", "(II)I"⟩ ∈ zT := zq_s (q := (⟨"BlushCourtModel", "ofLog", "(II)I"⟩, 27)) (List.mem_append_right _ (List.mem_append_right _ (List.mem_append_right _ (List.mem_append_right _ (List.mem_append_right _ (List.mem_append_right _ (List.mem_append_right _ (List.mem_append_right _ (List.mem_of_getElem? (i := 7) rfl)))))))))
theorem zw_661 : (Cond.fieldLink "java/lang/String" 38 "java/lang/String" "COMPACT_STRINGS" "Z") ∈ zT := zq_3 181 rfl rfl
theorem zw_677 : (Cond.fieldLink "java/lang/String" 1053 "jdk/internal/util/Preconditions" "SIOOBE_FORMATTER" "Ljava/util/function/BiFunction;") ∈ zT := zq_3 197 rfl rfl
theorem zw_2252 : (Cond.fieldLink "java/lang/String" 9 "java/lang/String" "value" "[B") ∈ zT := zq_10 92 rfl rfl
theorem zw_2253 : (Cond.fieldLink "java/lang/String" 15 "java/lang/String" "coder" "B") ∈ zT := zq_10 93 rfl rfl
theorem zw_660 : (Cond.code ⟨"java/lang/String", "coder", "()B"⟩ prog_25_method_152_code 1 (some .byte)) ∈ zT := zq_3 180 rfl rfl
theorem zw_657 : (Cond.methodLink "java/lang/String" 335 ⟨"java/lang/String", "coder", "()B"⟩) ∈ zT := zq_3 177 rfl rfl
theorem zw_658 : (Cond.instanceMethod ⟨"java/lang/String", "coder", "()B"⟩) ∈ zT := zq_3 178 rfl rfl
theorem zw_659 : (Cond.selects "java/lang/String" ⟨"java/lang/String", "coder", "()B"⟩ ⟨"java/lang/String", "coder", "()B"⟩) ∈ zT := zq_3 179 rfl rfl
theorem zw_670 : (Cond.code ⟨"java/lang/String", "isLatin1", "()Z"⟩ prog_25_method_154_code 1 (some .boolean)) ∈ zT := zq_3 190 rfl rfl
theorem zw_667 : (Cond.methodLink "java/lang/String" 492 ⟨"java/lang/String", "isLatin1", "()Z"⟩) ∈ zT := zq_3 187 rfl rfl
theorem zw_668 : (Cond.instanceMethod ⟨"java/lang/String", "isLatin1", "()Z"⟩) ∈ zT := zq_3 188 rfl rfl
theorem zw_669 : (Cond.selects "java/lang/String" ⟨"java/lang/String", "isLatin1", "()Z"⟩ ⟨"java/lang/String", "isLatin1", "()Z"⟩) ∈ zT := zq_3 189 rfl rfl
theorem zw_16 : (Cond.initialized "java/lang/StringLatin1") ∈ zT := zq_1 16 rfl rfl
theorem zw_673 : (Cond.code ⟨"java/lang/StringLatin1", "charAt", "([BI)C"⟩ prog_26_method_2_code 2 (some .char)) ∈ zT := zq_3 193 rfl rfl
theorem zw_671 : (Cond.methodLink "java/lang/String" 495 ⟨"java/lang/StringLatin1", "charAt", "([BI)C"⟩) ∈ zT := zq_3 191 rfl rfl
theorem zw_672 : (Cond.static ⟨"java/lang/StringLatin1", "charAt", "([BI)C"⟩) ∈ zT := zq_3 192 rfl rfl
theorem zw_676 : (Cond.code ⟨"java/lang/String", "checkIndex", "(II)V"⟩ prog_25_method_155_code 2 (none : Option Jvm.ClassFile.FieldType)) ∈ zT := zq_3 196 rfl rfl
theorem zw_674 : (Cond.methodLink "java/lang/StringLatin1" 9 ⟨"java/lang/String", "checkIndex", "(II)V"⟩) ∈ zT := zq_3 194 rfl rfl
theorem zw_675 : (Cond.static ⟨"java/lang/String", "checkIndex", "(II)V"⟩) ∈ zT := zq_3 195 rfl rfl
theorem zw_17 : (Cond.initialized "jdk/internal/util/Preconditions") ∈ zT := zq_1 17 rfl rfl
theorem zw_681 : (Cond.code ⟨"jdk/internal/util/Preconditions", "checkIndex", "(IILjava/util/function/BiFunction;)I"⟩ prog_35_method_11_code 3 (some .int)) ∈ zT := zq_3 201 rfl rfl
theorem zw_679 : (Cond.methodLink "java/lang/String" 1059 ⟨"jdk/internal/util/Preconditions", "checkIndex", "(IILjava/util/function/BiFunction;)I"⟩) ∈ zT := zq_3 199 rfl rfl
theorem zw_680 : (Cond.static ⟨"jdk/internal/util/Preconditions", "checkIndex", "(IILjava/util/function/BiFunction;)I"⟩) ∈ zT := zq_3 200 rfl rfl
