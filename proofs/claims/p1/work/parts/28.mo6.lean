theorem wd_54 : (Jvm.Cond.selects "StreamSplitterModel" ({ cls := "StreamSplitterModel", name := "beginTable", desc := "(III)V" } : Jvm.MethodName) ({ cls := "StreamSplitterModel", name := "beginTable", desc := "(III)V" } : Jvm.MethodName)) ∈ lw_ok := List.mem_filter.mpr ⟨List.mem_of_getElem? (i := 54) (by decide +kernel), rfl⟩
theorem wd_1133 : (Jvm.Cond.fieldLink "StreamSplitterModel" (277 : Nat) "StreamSplitterModel" "plans" "I") ∈ lw_ok := List.mem_filter.mpr ⟨List.mem_of_getElem? (i := 1133) (by decide +kernel), rfl⟩
theorem wd_1134 : (Jvm.Cond.fieldLink "StreamSplitterModel" (133 : Nat) "StreamSplitterModel" "planNumbers" "[I") ∈ lw_ok := List.mem_filter.mpr ⟨List.mem_of_getElem? (i := 1134) (by decide +kernel), rfl⟩
theorem wd_1135 : (Jvm.Cond.fieldLink "StreamSplitterModel" (136 : Nat) "StreamSplitterModel" "planPids" "[I") ∈ lw_ok := List.mem_filter.mpr ⟨List.mem_of_getElem? (i := 1135) (by decide +kernel), rfl⟩
theorem wd_1136 : (Jvm.Cond.fieldLink "StreamSplitterModel" (139 : Nat) "StreamSplitterModel" "planStreams" "[I") ∈ lw_ok := List.mem_filter.mpr ⟨List.mem_of_getElem? (i := 1136) (by decide +kernel), rfl⟩
theorem wd_1137 : (Jvm.Cond.fieldLink "StreamSplitterModel" (142 : Nat) "StreamSplitterModel" "planTypes" "[I") ∈ lw_ok := List.mem_filter.mpr ⟨List.mem_of_getElem? (i := 1137) (by decide +kernel), rfl⟩
theorem wd_1138 : (Jvm.Cond.fieldLink "StreamSplitterModel" (145 : Nat) "StreamSplitterModel" "planStreamPids" "[I") ∈ lw_ok := List.mem_filter.mpr ⟨List.mem_of_getElem? (i := 1138) (by decide +kernel), rfl⟩
theorem wd_1427 : (Jvm.Cond.constant "StreamSplitterModel" (276 : Nat) (65535 : Int32)) ∈ lw_ok := List.mem_filter.mpr ⟨List.mem_of_getElem? (i := 1427) (by decide +kernel), rfl⟩
theorem wd_1444 : (Jvm.Cond.methodLink "StreamSplitterModel" (292 : Nat) ({ cls := "StreamSplitterModel", name := "beginTable", desc := "(III)V" } : Jvm.MethodName)) ∈ lw_ok := List.mem_filter.mpr ⟨List.mem_of_getElem? (i := 1444) (by decide +kernel), rfl⟩
theorem wd_1446 : (Jvm.Cond.instanceMethod ({ cls := "StreamSplitterModel", name := "beginTable", desc := "(III)V" } : Jvm.MethodName)) ∈ lw_ok := List.mem_filter.mpr ⟨List.mem_of_getElem? (i := 1446) (by decide +kernel), rfl⟩
set_option maxRecDepth 100000 in
theorem wd_1447 : (Jvm.Cond.code ({ cls := "StreamSplitterModel", name := "beginTable", desc := "(III)V" } : Jvm.MethodName) prog_14_method_50_code (4 : Nat) (Option.none : Option Jvm.ClassFile.FieldType)) ∈ lw_ok := List.mem_filter.mpr ⟨List.mem_of_getElem? (i := 1447) (by rfl), rfl⟩
theorem wd_1453 : (Jvm.Cond.constantLong "StreamSplitterModel" (295 : Nat) (57344 : Int64)) ∈ lw_ok := List.mem_filter.mpr ⟨List.mem_of_getElem? (i := 1453) (by decide +kernel), rfl⟩
theorem wd_1462 : (Jvm.Cond.constantLong "StreamSplitterModel" (303 : Nat) (61440 : Int64)) ∈ lw_ok := List.mem_filter.mpr ⟨List.mem_of_getElem? (i := 1462) (by decide +kernel), rfl⟩
theorem hd_Mo_beginTable : y_Mo_beginTable.cls ≠ "java/lang/invoke/MethodHandle" ∧ y_Mo_beginTable.cls ≠ "java/lang/invoke/VarHandle" ∧ (parseMethodDescriptor y_Mo_beginTable.desc).map (fun d => d.parameters.length) = some 3 := by decide +kernel
theorem d_Mo_writeTables_0 : decode b_Mo_writeTables 0 = .ok (.aload_n 0, 1) := by decide +kernel
theorem d_Mo_writeTables_1 : decode b_Mo_writeTables 1 = .ok (.iload_n 1, 1) := by decide +kernel
theorem d_Mo_writeTables_2 : decode b_Mo_writeTables 2 = .ok (.ifCond .lt 9, 3) := by decide +kernel
theorem d_Mo_writeTables_5 : decode b_Mo_writeTables 5 = .ok (.iload_n 1, 1) := by decide +kernel
theorem d_Mo_writeTables_6 : decode b_Mo_writeTables 6 = .ok (.bipush 31, 2) := by decide +kernel
theorem d_Mo_writeTables_8 : decode b_Mo_writeTables 8 = .ok (.if_icmp .le 7, 3) := by decide +kernel
theorem d_Mo_writeTables_11 : decode b_Mo_writeTables 11 = .ok (.iconst 1, 1) := by decide +kernel
theorem d_Mo_writeTables_12 : decode b_Mo_writeTables 12 = .ok (.goto 4, 3) := by decide +kernel
theorem d_Mo_writeTables_15 : decode b_Mo_writeTables 15 = .ok (.iconst 0, 1) := by decide +kernel
theorem d_Mo_writeTables_16 : decode b_Mo_writeTables 16 = .ok (.putfield 156, 3) := by decide +kernel
theorem d_Mo_writeTables_19 : decode b_Mo_writeTables 19 = .ok (.aload_n 0, 1) := by decide +kernel
theorem d_Mo_writeTables_20 : decode b_Mo_writeTables 20 = .ok (.getfield 156, 3) := by decide +kernel
theorem d_Mo_writeTables_23 : decode b_Mo_writeTables 23 = .ok (.ifCond .le 5, 3) := by decide +kernel
theorem d_Mo_writeTables_26 : decode b_Mo_writeTables 26 = .ok (.iconst 0, 1) := by decide +kernel
theorem d_Mo_writeTables_27 : decode b_Mo_writeTables 27 = .ok (.ireturn, 1) := by decide +kernel
theorem d_Mo_writeTables_28 : decode b_Mo_writeTables 28 = .ok (.aload_n 0, 1) := by decide +kernel
theorem d_Mo_writeTables_29 : decode b_Mo_writeTables 29 = .ok (.sipush 184, 3) := by decide +kernel
theorem d_Mo_writeTables_32 : decode b_Mo_writeTables 32 = .ok (.iconst 1, 1) := by decide +kernel
theorem d_Mo_writeTables_33 : decode b_Mo_writeTables 33 = .ok (.aload_n 0, 1) := by decide +kernel
theorem d_Mo_writeTables_34 : decode b_Mo_writeTables 34 = .ok (.getfield 277, 3) := by decide +kernel
theorem d_Mo_writeTables_37 : decode b_Mo_writeTables 37 = .ok (.iadd, 1) := by decide +kernel
theorem d_Mo_writeTables_38 : decode b_Mo_writeTables 38 = .ok (.imul, 1) := by decide +kernel
theorem d_Mo_writeTables_39 : decode b_Mo_writeTables 39 = .ok (.invokevirtual 289, 3) := by decide +kernel
theorem d_Mo_writeTables_42 : decode b_Mo_writeTables 42 = .ok (.ifCond .ne 5, 3) := by decide +kernel
theorem d_Mo_writeTables_45 : decode b_Mo_writeTables 45 = .ok (.iconst (-1), 1) := by decide +kernel
theorem d_Mo_writeTables_46 : decode b_Mo_writeTables 46 = .ok (.ireturn, 1) := by decide +kernel
theorem d_Mo_writeTables_47 : decode b_Mo_writeTables 47 = .ok (.aload_n 0, 1) := by decide +kernel
theorem d_Mo_writeTables_48 : decode b_Mo_writeTables 48 = .ok (.iconst 0, 1) := by decide +kernel
theorem d_Mo_writeTables_49 : decode b_Mo_writeTables 49 = .ok (.ldc_w 276, 3) := by decide +kernel
theorem d_Mo_writeTables_52 : decode b_Mo_writeTables 52 = .ok (.iload_n 1, 1) := by decide +kernel
theorem d_Mo_writeTables_53 : decode b_Mo_writeTables 53 = .ok (.invokevirtual 292, 3) := by decide +kernel
theorem d_Mo_writeTables_56 : decode b_Mo_writeTables 56 = .ok (.iconst 0, 1) := by decide +kernel
theorem d_Mo_writeTables_57 : decode b_Mo_writeTables 57 = .ok (.istore_n 2, 1) := by decide +kernel
theorem d_Mo_writeTables_58 : decode b_Mo_writeTables 58 = .ok (.iload_n 2, 1) := by decide +kernel
theorem d_Mo_writeTables_59 : decode b_Mo_writeTables 59 = .ok (.aload_n 0, 1) := by decide +kernel
theorem d_Mo_writeTables_60 : decode b_Mo_writeTables 60 = .ok (.getfield 277, 3) := by decide +kernel
theorem d_Mo_writeTables_63 : decode b_Mo_writeTables 63 = .ok (.if_icmp .ge 37, 3) := by decide +kernel
theorem d_Mo_writeTables_66 : decode b_Mo_writeTables 66 = .ok (.aload_n 0, 1) := by decide +kernel
theorem d_Mo_writeTables_67 : decode b_Mo_writeTables 67 = .ok (.aload_n 0, 1) := by decide +kernel
theorem d_Mo_writeTables_68 : decode b_Mo_writeTables 68 = .ok (.getfield 133, 3) := by decide +kernel
theorem d_Mo_writeTables_71 : decode b_Mo_writeTables 71 = .ok (.iload_n 2, 1) := by decide +kernel
theorem d_Mo_writeTables_72 : decode b_Mo_writeTables 72 = .ok (.iaload, 1) := by decide +kernel
theorem d_Mo_writeTables_73 : decode b_Mo_writeTables 73 = .ok (.i2l, 1) := by decide +kernel
theorem d_Mo_writeTables_74 : decode b_Mo_writeTables 74 = .ok (.iconst 2, 1) := by decide +kernel
theorem d_Mo_writeTables_75 : decode b_Mo_writeTables 75 = .ok (.invokevirtual 283, 3) := by decide +kernel
theorem d_Mo_writeTables_78 : decode b_Mo_writeTables 78 = .ok (.aload_n 0, 1) := by decide +kernel
theorem d_Mo_writeTables_79 : decode b_Mo_writeTables 79 = .ok (.ldc2_w 295, 3) := by decide +kernel
theorem d_Mo_writeTables_82 : decode b_Mo_writeTables 82 = .ok (.aload_n 0, 1) := by decide +kernel
theorem d_Mo_writeTables_83 : decode b_Mo_writeTables 83 = .ok (.getfield 136, 3) := by decide +kernel
theorem d_Mo_writeTables_86 : decode b_Mo_writeTables 86 = .ok (.iload_n 2, 1) := by decide +kernel
theorem d_Mo_writeTables_87 : decode b_Mo_writeTables 87 = .ok (.iaload, 1) := by decide +kernel
theorem d_Mo_writeTables_88 : decode b_Mo_writeTables 88 = .ok (.i2l, 1) := by decide +kernel
theorem d_Mo_writeTables_89 : decode b_Mo_writeTables 89 = .ok (.lor, 1) := by decide +kernel
theorem d_Mo_writeTables_90 : decode b_Mo_writeTables 90 = .ok (.iconst 2, 1) := by decide +kernel
theorem d_Mo_writeTables_91 : decode b_Mo_writeTables 91 = .ok (.invokevirtual 283, 3) := by decide +kernel
theorem d_Mo_writeTables_94 : decode b_Mo_writeTables 94 = .ok (.iinc 2 1, 3) := by decide +kernel
theorem d_Mo_writeTables_97 : decode b_Mo_writeTables 97 = .ok (.goto (-39), 3) := by decide +kernel
theorem d_Mo_writeTables_100 : decode b_Mo_writeTables 100 = .ok (.aload_n 0, 1) := by decide +kernel
theorem d_Mo_writeTables_101 : decode b_Mo_writeTables 101 = .ok (.bipush 11, 2) := by decide +kernel
theorem d_Mo_writeTables_103 : decode b_Mo_writeTables 103 = .ok (.invokevirtual 297, 3) := by decide +kernel
theorem d_Mo_writeTables_106 : decode b_Mo_writeTables 106 = .ok (.aload_n 0, 1) := by decide +kernel
theorem d_Mo_writeTables_107 : decode b_Mo_writeTables 107 = .ok (.iconst 0, 1) := by decide +kernel
theorem d_Mo_writeTables_108 : decode b_Mo_writeTables 108 = .ok (.invokevirtual 300, 3) := by decide +kernel
theorem d_Mo_writeTables_111 : decode b_Mo_writeTables 111 = .ok (.iconst 0, 1) := by decide +kernel
theorem d_Mo_writeTables_112 : decode b_Mo_writeTables 112 = .ok (.istore_n 2, 1) := by decide +kernel
theorem d_Mo_writeTables_113 : decode b_Mo_writeTables 113 = .ok (.iload_n 2, 1) := by decide +kernel
theorem d_Mo_writeTables_114 : decode b_Mo_writeTables 114 = .ok (.aload_n 0, 1) := by decide +kernel
theorem d_Mo_writeTables_115 : decode b_Mo_writeTables 115 = .ok (.getfield 277, 3) := by decide +kernel
theorem d_Mo_writeTables_118 : decode b_Mo_writeTables 118 = .ok (.if_icmp .ge 140, 3) := by decide +kernel
theorem d_Mo_writeTables_121 : decode b_Mo_writeTables 121 = .ok (.aload_n 0, 1) := by decide +kernel
theorem d_Mo_writeTables_122 : decode b_Mo_writeTables 122 = .ok (.iconst 2, 1) := by decide +kernel
theorem d_Mo_writeTables_123 : decode b_Mo_writeTables 123 = .ok (.aload_n 0, 1) := by decide +kernel
theorem d_Mo_writeTables_124 : decode b_Mo_writeTables 124 = .ok (.getfield 133, 3) := by decide +kernel
theorem d_Mo_writeTables_127 : decode b_Mo_writeTables 127 = .ok (.iload_n 2, 1) := by decide +kernel
theorem d_Mo_writeTables_128 : decode b_Mo_writeTables 128 = .ok (.iaload, 1) := by decide +kernel
theorem d_Mo_writeTables_129 : decode b_Mo_writeTables 129 = .ok (.iload_n 1, 1) := by decide +kernel
theorem d_Mo_writeTables_130 : decode b_Mo_writeTables 130 = .ok (.invokevirtual 292, 3) := by decide +kernel
theorem d_Mo_writeTables_133 : decode b_Mo_writeTables 133 = .ok (.aload_n 0, 1) := by decide +kernel
theorem d_Mo_writeTables_134 : decode b_Mo_writeTables 134 = .ok (.ldc2_w 295, 3) := by decide +kernel
theorem d_Mo_writeTables_137 : decode b_Mo_writeTables 137 = .ok (.aload_n 0, 1) := by decide +kernel
theorem d_Mo_writeTables_138 : decode b_Mo_writeTables 138 = .ok (.getfield 139, 3) := by decide +kernel
theorem d_Mo_writeTables_141 : decode b_Mo_writeTables 141 = .ok (.iload_n 2, 1) := by decide +kernel
theorem d_Mo_writeTables_142 : decode b_Mo_writeTables 142 = .ok (.iaload, 1) := by decide +kernel
theorem d_Mo_writeTables_143 : decode b_Mo_writeTables 143 = .ok (.ifCond .ne 9, 3) := by decide +kernel
theorem d_Mo_writeTables_146 : decode b_Mo_writeTables 146 = .ok (.sipush 8191, 3) := by decide +kernel
theorem d_Mo_writeTables_149 : decode b_Mo_writeTables 149 = .ok (.goto 11, 3) := by decide +kernel
theorem d_Mo_writeTables_152 : decode b_Mo_writeTables 152 = .ok (.aload_n 0, 1) := by decide +kernel
theorem d_Mo_writeTables_153 : decode b_Mo_writeTables 153 = .ok (.getfield 145, 3) := by decide +kernel
theorem d_Mo_writeTables_156 : decode b_Mo_writeTables 156 = .ok (.iconst 4, 1) := by decide +kernel
theorem d_Mo_writeTables_157 : decode b_Mo_writeTables 157 = .ok (.iload_n 2, 1) := by decide +kernel
theorem d_Mo_writeTables_158 : decode b_Mo_writeTables 158 = .ok (.imul, 1) := by decide +kernel
theorem d_Mo_writeTables_159 : decode b_Mo_writeTables 159 = .ok (.iaload, 1) := by decide +kernel
theorem d_Mo_writeTables_160 : decode b_Mo_writeTables 160 = .ok (.i2l, 1) := by decide +kernel
theorem d_Mo_writeTables_161 : decode b_Mo_writeTables 161 = .ok (.lor, 1) := by decide +kernel
theorem d_Mo_writeTables_162 : decode b_Mo_writeTables 162 = .ok (.iconst 2, 1) := by decide +kernel
theorem d_Mo_writeTables_163 : decode b_Mo_writeTables 163 = .ok (.invokevirtual 283, 3) := by decide +kernel
theorem d_Mo_writeTables_166 : decode b_Mo_writeTables 166 = .ok (.aload_n 0, 1) := by decide +kernel
theorem d_Mo_writeTables_167 : decode b_Mo_writeTables 167 = .ok (.ldc2_w 303, 3) := by decide +kernel
theorem d_Mo_writeTables_170 : decode b_Mo_writeTables 170 = .ok (.iconst 2, 1) := by decide +kernel
theorem d_Mo_writeTables_171 : decode b_Mo_writeTables 171 = .ok (.invokevirtual 283, 3) := by decide +kernel
theorem d_Mo_writeTables_174 : decode b_Mo_writeTables 174 = .ok (.iconst 0, 1) := by decide +kernel
theorem d_Mo_writeTables_175 : decode b_Mo_writeTables 175 = .ok (.istore_n 3, 1) := by decide +kernel
theorem d_Mo_writeTables_176 : decode b_Mo_writeTables 176 = .ok (.iload_n 3, 1) := by decide +kernel
theorem d_Mo_writeTables_177 : decode b_Mo_writeTables 177 = .ok (.aload_n 0, 1) := by decide +kernel
theorem d_Mo_writeTables_178 : decode b_Mo_writeTables 178 = .ok (.getfield 139, 3) := by decide +kernel
theorem d_Mo_writeTables_181 : decode b_Mo_writeTables 181 = .ok (.iload_n 2, 1) := by decide +kernel
theorem d_Mo_writeTables_182 : decode b_Mo_writeTables 182 = .ok (.iaload, 1) := by decide +kernel
theorem d_Mo_writeTables_183 : decode b_Mo_writeTables 183 = .ok (.if_icmp .ge 53, 3) := by decide +kernel
theorem d_Mo_writeTables_186 : decode b_Mo_writeTables 186 = .ok (.aload_n 0, 1) := by decide +kernel
theorem d_Mo_writeTables_187 : decode b_Mo_writeTables 187 = .ok (.aload_n 0, 1) := by decide +kernel
theorem d_Mo_writeTables_188 : decode b_Mo_writeTables 188 = .ok (.getfield 142, 3) := by decide +kernel
theorem d_Mo_writeTables_191 : decode b_Mo_writeTables 191 = .ok (.iconst 4, 1) := by decide +kernel
theorem d_Mo_writeTables_192 : decode b_Mo_writeTables 192 = .ok (.iload_n 2, 1) := by decide +kernel
theorem d_Mo_writeTables_193 : decode b_Mo_writeTables 193 = .ok (.imul, 1) := by decide +kernel
theorem d_Mo_writeTables_194 : decode b_Mo_writeTables 194 = .ok (.iload_n 3, 1) := by decide +kernel
theorem d_Mo_writeTables_195 : decode b_Mo_writeTables 195 = .ok (.iadd, 1) := by decide +kernel
theorem d_Mo_writeTables_196 : decode b_Mo_writeTables 196 = .ok (.iaload, 1) := by decide +kernel
theorem d_Mo_writeTables_197 : decode b_Mo_writeTables 197 = .ok (.i2l, 1) := by decide +kernel
theorem d_Mo_writeTables_198 : decode b_Mo_writeTables 198 = .ok (.iconst 1, 1) := by decide +kernel
theorem d_Mo_writeTables_199 : decode b_Mo_writeTables 199 = .ok (.invokevirtual 283, 3) := by decide +kernel
theorem d_Mo_writeTables_202 : decode b_Mo_writeTables 202 = .ok (.aload_n 0, 1) := by decide +kernel
theorem d_Mo_writeTables_203 : decode b_Mo_writeTables 203 = .ok (.ldc2_w 295, 3) := by decide +kernel
theorem d_Mo_writeTables_206 : decode b_Mo_writeTables 206 = .ok (.aload_n 0, 1) := by decide +kernel
theorem d_Mo_writeTables_207 : decode b_Mo_writeTables 207 = .ok (.getfield 145, 3) := by decide +kernel
theorem d_Mo_writeTables_210 : decode b_Mo_writeTables 210 = .ok (.iconst 4, 1) := by decide +kernel
theorem d_Mo_writeTables_211 : decode b_Mo_writeTables 211 = .ok (.iload_n 2, 1) := by decide +kernel
theorem d_Mo_writeTables_212 : decode b_Mo_writeTables 212 = .ok (.imul, 1) := by decide +kernel
theorem d_Mo_writeTables_213 : decode b_Mo_writeTables 213 = .ok (.iload_n 3, 1) := by decide +kernel
theorem d_Mo_writeTables_214 : decode b_Mo_writeTables 214 = .ok (.iadd, 1) := by decide +kernel
theorem d_Mo_writeTables_215 : decode b_Mo_writeTables 215 = .ok (.iaload, 1) := by decide +kernel
theorem d_Mo_writeTables_216 : decode b_Mo_writeTables 216 = .ok (.i2l, 1) := by decide +kernel
theorem d_Mo_writeTables_217 : decode b_Mo_writeTables 217 = .ok (.lor, 1) := by decide +kernel
theorem d_Mo_writeTables_218 : decode b_Mo_writeTables 218 = .ok (.iconst 2, 1) := by decide +kernel
theorem d_Mo_writeTables_219 : decode b_Mo_writeTables 219 = .ok (.invokevirtual 283, 3) := by decide +kernel
theorem d_Mo_writeTables_222 : decode b_Mo_writeTables 222 = .ok (.aload_n 0, 1) := by decide +kernel
theorem d_Mo_writeTables_223 : decode b_Mo_writeTables 223 = .ok (.ldc2_w 303, 3) := by decide +kernel
theorem d_Mo_writeTables_226 : decode b_Mo_writeTables 226 = .ok (.iconst 2, 1) := by decide +kernel
theorem d_Mo_writeTables_227 : decode b_Mo_writeTables 227 = .ok (.invokevirtual 283, 3) := by decide +kernel
theorem d_Mo_writeTables_230 : decode b_Mo_writeTables 230 = .ok (.iinc 3 1, 3) := by decide +kernel
theorem d_Mo_writeTables_233 : decode b_Mo_writeTables 233 = .ok (.goto (-57), 3) := by decide +kernel
theorem d_Mo_writeTables_236 : decode b_Mo_writeTables 236 = .ok (.aload_n 0, 1) := by decide +kernel
theorem d_Mo_writeTables_237 : decode b_Mo_writeTables 237 = .ok (.bipush 11, 2) := by decide +kernel
theorem d_Mo_writeTables_239 : decode b_Mo_writeTables 239 = .ok (.invokevirtual 297, 3) := by decide +kernel
theorem d_Mo_writeTables_242 : decode b_Mo_writeTables 242 = .ok (.aload_n 0, 1) := by decide +kernel
theorem d_Mo_writeTables_243 : decode b_Mo_writeTables 243 = .ok (.aload_n 0, 1) := by decide +kernel
theorem d_Mo_writeTables_244 : decode b_Mo_writeTables 244 = .ok (.getfield 136, 3) := by decide +kernel
theorem d_Mo_writeTables_247 : decode b_Mo_writeTables 247 = .ok (.iload_n 2, 1) := by decide +kernel
theorem d_Mo_writeTables_248 : decode b_Mo_writeTables 248 = .ok (.iaload, 1) := by decide +kernel
theorem d_Mo_writeTables_249 : decode b_Mo_writeTables 249 = .ok (.invokevirtual 300, 3) := by decide +kernel
theorem d_Mo_writeTables_252 : decode b_Mo_writeTables 252 = .ok (.iinc 2 1, 3) := by decide +kernel
theorem d_Mo_writeTables_255 : decode b_Mo_writeTables 255 = .ok (.goto (-142), 3) := by decide +kernel
theorem d_Mo_writeTables_258 : decode b_Mo_writeTables 258 = .ok (.aload_n 0, 1) := by decide +kernel
theorem d_Mo_writeTables_259 : decode b_Mo_writeTables 259 = .ok (.getfield 159, 3) := by decide +kernel
theorem d_Mo_writeTables_262 : decode b_Mo_writeTables 262 = .ok (.ireturn, 1) := by decide +kernel
/-! The reference's writeTables -/
def mtB (tb nu ve : Int32) : List Int32 := ((((bsL 0 1 ++ bsL tb.toInt64 1) ++ bsL 0 2) ++ bsL nu.toInt64 2) ++ bsL ((193 : Int64) ||| (ve.toInt64 <<< ((1 : Int32).toInt64 &&& 63))) 1) ++ bsL 0 2
theorem mtB_len (tb nu ve : Int32) : (mtB tb nu ve).length = 9 := by simp [mtB, bs_len]
def mtP (pN pP : Nat → Int32) : Nat → List Int32
  | 0 => []
  | k + 1 => (mtP pN pP k ++ bsL (pN k).toInt64 2) ++ bsL (57344 ||| (pP k).toInt64) 2
theorem mtP_len (pN pP : Nat → Int32) : ∀ k, (mtP pN pP k).length = 4 * k
  | 0 => rfl
  | k + 1 => by rw [mtP, List.length_append, List.length_append, mtP_len pN pP k, bs_len, bs_len]; omega
def mtS (pT pQ : Nat → Int32) (j : Nat) : Nat → List Int32
  | 0 => []
  | k + 1 => ((mtS pT pQ j k ++ bsL (pT (4 * j + k)).toInt64 1) ++ bsL (57344 ||| (pQ (4 * j + k)).toInt64) 2) ++ bsL 61440 2
theorem mtS_len (pT pQ : Nat → Int32) (j : Nat) : ∀ k, (mtS pT pQ j k).length = 5 * k
  | 0 => rfl
  | k + 1 => by rw [mtS, List.length_append, List.length_append, List.length_append, mtS_len pT pQ j k, bs_len, bs_len, bs_len]; omega
def mtC (pN pQ : Nat → Int32) (ns : Nat → Nat) (ve : Int32) (j : Nat) : List Int32 := (mtB 2 (pN j) ve ++ bsL (57344 ||| (if ns j = 0 then 8191 else pQ (4 * j)).toInt64) 2) ++ bsL 61440 2
theorem mtC_len (pN pQ : Nat → Int32) (ns : Nat → Nat) (ve : Int32) (j : Nat) : (mtC pN pQ ns ve j).length = 13 := by rw [mtC, List.length_append, List.length_append, mtB_len, bs_len, bs_len]
def mtPl (pN pT pQ : Nat → Int32) (ns : Nat → Nat) (ve : Int32) (j : Nat) : List Int32 := mtC pN pQ ns ve j ++ mtS pT pQ j (ns j)
def mtLi (pN pP : Nat → Int32) (ve : Int32) (np : Nat) : List Int32 := mtB 0 65535 ve ++ mtP pN pP np
def mtU (wf : Nat → Nat) (k v : Nat) : Nat → Nat := fun x => if x = k then v else wf x
def mtW (z : List Int32 × (Nat → Nat)) (pid : Nat) (X : List Int32) : List Int32 × (Nat → Nat) := (z.1 ++ ppL pid (z.2 pid) X.length 0 X, mtU z.2 pid (z.2 pid + (X.length + 183) / 184))
def mtT (pN pP pT pQ : Nat → Int32) (pp ns : Nat → Nat) (ve : Int32) (np : Nat) (T : List Int32) (wf : Nat → Nat) : Nat → List Int32 × (Nat → Nat)
  | 0 => mtW (T, wf) 0 (sealL 11 (mtLi pN pP ve np))
  | j + 1 => mtW (mtT pN pP pT pQ pp ns ve np T wf j) (pp j) (sealL 11 (mtPl pN pT pQ ns ve j))
def MT (z : List Int32 × (Nat → Nat)) (u : MWQ) (r0 : Int32) : Prop :=
  u.1 = 0 ∧ rl u.2.2.2.1 z.1 ∧ u.2.1 = nI z.1.length ∧ (∀ x, x < 8192 → u.2.2.2.2.1 x = nI (z.2 x)) ∧ r0 = u.2.1
theorem mt_188 {X : List Int32} {pid w : Nat} (h : X.length = 184) : (ppL pid w X.length 0 X).length = 188 := by
  rw [h, pp_184 pid w (by omega) (by omega), List.length_append, h]
  rfl
theorem mt_w {wh : Nat → Int32} {wg : Nat → Nat} {k v : Nat} (h : ∀ x, x < 8192 → wh x = nI (wg x)) : ∀ x, x < 8192 → upd wh k (nI v) x = nI (mtU wg k v x) := by
  intro x hx
  by_cases c : x = k
  · subst c
    rw [pk_us, mtU, if_pos rfl]
  · rw [pk_un c, mtU, if_neg c]
    exact h x hx
theorem mt_b {wg wf : Nat → Nat} {k j n : Nat} (h : ∀ x, x < 8192 → wg x ≤ wf x + j) (hk : k < 8192) (hn : n = 1) : ∀ x, x < 8192 → mtU wg k (wg k + n) x ≤ wf x + (j + 1) := by
  intro x hx
  unfold mtU
  have := h x hx
  have := h k hk
  split
  · rename_i c; subst c; omega
  · omega

set_option maxHeartbeats 4000000 in
set_option maxRecDepth 100000 in
theorem c_Mo_writeTables (l : Launch) (D : va_G) (sz : Nat) (cI : ClassId) (h : Nat) (r : Nat → Nat) (th le lv pg pn rs : Int32) (T : List Int32) (tp : Nat → Int32) (wf : Nat → Nat) (wr ro : Nat → Int32) (np : Nat) (pN pP pS pT pQ : Nat → Int32) (pp ns : Nat → Nat) (ve : Int32) (htp : rl tp T) (hn : T.length ≤ 9400) (hwf : ∀ x, x < 8192 → wr x = nI (wf x)) (hwb : ∀ x, x < 8192 → wf x + 8 < 2 ^ 29) (hnp : np ≤ 4) (hpp : ∀ k, k < np → pP k = nI (pp k) ∧ pp k < 8192) (hns : ∀ k, k < np → pS k = nI (ns k) ∧ ns k ≤ 4) : Met l y_Mo_writeTables [Cond.code y_Mo_writeTables b_Mo_writeTables 4 (some .int)] ({ frames := 2, cells := 0, slots := 0, locals := 47 }) (zM [.ref h, .int ve] D [(h, .inr (13, mO r th (nI T.length) le lv pg pn (nI np) rs)), (r 1, .inl (cI, 9400, .inl tp)), (r 51, .inl (cI, 8192, .inl wr)), (r 52, .inl (cI, 4200, .inl ro)), (r 46, .inl (cI, 4, .inl pN)), (r 47, .inl (cI, 4, .inl pP)), (r 48, .inl (cI, 4, .inl pS)), (r 49, .inl (cI, 16, .inl pT)), (r 50, .inl (cI, 16, .inl pQ))] [(cI, .int)] sz) (va_Qi (fun r0 (u : MWQ) => ((ve < 0 ∨ 31 < ve) ∧ r0 = 0 ∧ u = (1, nI T.length, rs, tp, wr, ro)) ∨ (¬ (ve < 0 ∨ 31 < ve) ∧ ((¬ T.length + 188 * (1 + np) ≤ 9400 ∧ r0 = -1 ∧ u = (0, nI T.length, rs, tp, wr, ro)) ∨ (T.length + 188 * (1 + np) ≤ 9400 ∧ MT (mtT pN pP pT pQ pp ns ve np T wf np) u r0)))) (fun (u : MWQ) t => zW D (va_A [(h, .inr (13, mO r th (nI T.length) le lv pg pn (nI np) rs)), (r 1, .inl (cI, 9400, .inl tp)), (r 51, .inl (cI, 8192, .inl wr)), (r 52, .inl (cI, 4200, .inl ro)), (r 46, .inl (cI, 4, .inl pN)), (r 47, .inl (cI, 4, .inl pP)), (r 48, .inl (cI, 4, .inl pS)), (r 49, .inl (cI, 16, .inl pT)), (r 50, .inl (cI, 16, .inl pQ))] sz) [(h, .inr (13, mO r u.1 u.2.1 le lv pg pn (nI np) u.2.2.1)), (r 1, .inl (cI, 9400, .inl u.2.2.2.1)), (r 51, .inl (cI, 8192, .inl u.2.2.2.2.1)), (r 52, .inl (cI, 4200, .inl u.2.2.2.2.2)), (r 46, .inl (cI, 4, .inl pN)), (r 47, .inl (cI, 4, .inl pP)), (r 48, .inl (cI, 4, .inl pS)), (r 49, .inl (cI, 16, .inl pT)), (r 50, .inl (cI, 16, .inl pQ))] [(cI, .int)] t) (va_A [(h, .inr (13, mO r th (nI T.length) le lv pg pn (nI np) rs)), (r 1, .inl (cI, 9400, .inl tp)), (r 51, .inl (cI, 8192, .inl wr)), (r 52, .inl (cI, 4200, .inl ro)), (r 46, .inl (cI, 4, .inl pN)), (r 47, .inl (cI, 4, .inl pP)), (r 48, .inl (cI, 4, .inl pS)), (r 49, .inl (cI, 16, .inl pT)), (r 50, .inl (cI, 16, .inl pQ))] sz)) 0 0 (va_A [(h, .inr (13, mO r th (nI T.length) le lv pg pn (nI np) rs)), (r 1, .inl (cI, 9400, .inl tp)), (r 51, .inl (cI, 8192, .inl wr)), (r 52, .inl (cI, 4200, .inl ro)), (r 46, .inl (cI, 4, .inl pN)), (r 47, .inl (cI, 4, .inl pP)), (r 48, .inl (cI, 4, .inl pS)), (r 49, .inl (cI, 16, .inl pT)), (r 50, .inl (cI, 16, .inl pQ))] sz) := by
  refine Met.ofW (cc := b_Mo_writeTables) (maxL := 4) (ret := (some .int)) (by decide) rfl ?_
  intro p e s m args below meth cd s₁ Bd hml hv
  obtain ⟨rfl, hsz, hP, hK, hN, hD0⟩ := hv
  have hx := Bd.exec
  have hb := Bd.bytes
  have hr := Bd.returns
  have hts := hN.use (a := ([.ref h, .int ve]).toArray)
  have hown : s.vm.findClass R_Mo = some m.cls := findClass_of_methodNamed Bd.named
  have hlocks := Bd.notSynchronized
  subst hsz
  have hD := hD0.self (sz := s.heap.size)
  clear hD0
  have hA : ∀ q : Nat, s.heap.size ≤ q → va_A [(h, .inr (13, mO r th (nI T.length) le lv pg pn (nI np) rs)), (r 1, .inl (cI, 9400, .inl tp)), (r 51, .inl (cI, 8192, .inl wr)), (r 52, .inl (cI, 4200, .inl ro)), (r 46, .inl (cI, 4, .inl pN)), (r 47, .inl (cI, 4, .inl pP)), (r 48, .inl (cI, 4, .inl pS)), (r 49, .inl (cI, 16, .inl pT)), (r 50, .inl (cI, 16, .inl pQ))] s.heap.size q := fun q h => Or.inr h
  have hS : va_S (va_A [(h, .inr (13, mO r th (nI T.length) le lv pg pn (nI np) rs)), (r 1, .inl (cI, 9400, .inl tp)), (r 51, .inl (cI, 8192, .inl wr)), (r 52, .inl (cI, 4200, .inl ro)), (r 46, .inl (cI, 4, .inl pN)), (r 47, .inl (cI, 4, .inl pP)), (r 48, .inl (cI, 4, .inl pS)), (r 49, .inl (cI, 16, .inl pT)), (r 50, .inl (cI, 16, .inl pQ))] s.heap.size) s.heap s.heap [] := va_S.rf
  generalize hAe : va_A [(h, .inr (13, mO r th (nI T.length) le lv pg pn (nI np) rs)), (r 1, .inl (cI, 9400, .inl tp)), (r 51, .inl (cI, 8192, .inl wr)), (r 52, .inl (cI, 4200, .inl ro)), (r 46, .inl (cI, 4, .inl pN)), (r 47, .inl (cI, 4, .inl pP)), (r 48, .inl (cI, 4, .inl pS)), (r 49, .inl (cI, 16, .inl pT)), (r 50, .inl (cI, 16, .inl pQ))] s.heap.size = A at hD hA hS ⊢
  have hP : va_P D classes [(h, .inr (13, mO r th (nI T.length) le lv pg pn (nI np) rs)), (r 1, .inl (cI, 9400, .inl tp)), (r 51, .inl (cI, 8192, .inl wr)), (r 52, .inl (cI, 4200, .inl ro)), (r 46, .inl (cI, 4, .inl pN)), (r 47, .inl (cI, 4, .inl pP)), (r 48, .inl (cI, 4, .inl pS)), (r 49, .inl (cI, 16, .inl pT)), (r 50, .inl (cI, 16, .inl pQ))] s.heap := hP
  have hl := lv_entry ([.ref h, .int ve]) (n := 4) (Nat.le_of_ble_eq_true rfl)
  rw [lg_entry_eq]
  generalize (lg_sl ([.ref h, .int ve]) ++ List.replicate (4 - (lg_sl ([.ref h, .int ve])).length) Slot.unset).toArray = ls at hl ⊢
  have hl : lv_has ls 4 [(0, .ref h), (1, .int ve)] := hl
  refine lv_aload_n hx hb d_Mo_writeTables_0 rfl (lv_at hl 0 rfl) ?_
  refine lv_iload_n hx hb d_Mo_writeTables_1 rfl (lv_at hl 1 rfl) ?_
  refine lv_if_lt (tgt := 11) hx hb d_Mo_writeTables_2 rfl (fun h2 => ?_) (fun h2 => ?_)
  · refine lv_iconst (v := 1) hx hb d_Mo_writeTables_11 (by decide) ?_
    refine lv_goto (tgt := 16) hx hb d_Mo_writeTables_12 rfl ?_
    refine va_put (D := D) (ci := 13) (v := .int 1) (ty := .int) (C := R_Mo) (T := F_Mo) (N := 54) hx hb hts i_Mo t_Mo t_Mo_ok n_Mo hown hK hP hD hS 0 rfl rfl 0 (by decide) (hts _ wd_1088) (fun _ h9 => h9) rfl (by decide +kernel) rfl rfl (Nat.le_of_ble_eq_true rfl) d_Mo_writeTables_16 (fun H locs hP hD hS => ?_)
    have hP : va_P D classes [(h, .inr (13, mO r 1 (nI T.length) le lv pg pn (nI np) rs)), (r 1, .inl (cI, 9400, .inl tp)), (r 51, .inl (cI, 8192, .inl wr)), (r 52, .inl (cI, 4200, .inl ro)), (r 46, .inl (cI, 4, .inl pN)), (r 47, .inl (cI, 4, .inl pP)), (r 48, .inl (cI, 4, .inl pS)), (r 49, .inl (cI, 16, .inl pT)), (r 50, .inl (cI, 16, .inl pQ))] H := hP
    have hD : va_D A [(h, .inr (13, mO r 1 (nI T.length) le lv pg pn (nI np) rs)), (r 1, .inl (cI, 9400, .inl tp)), (r 51, .inl (cI, 8192, .inl wr)), (r 52, .inl (cI, 4200, .inl ro)), (r 46, .inl (cI, 4, .inl pN)), (r 47, .inl (cI, 4, .inl pP)), (r 48, .inl (cI, 4, .inl pS)), (r 49, .inl (cI, 16, .inl pT)), (r 50, .inl (cI, 16, .inl pQ))] := hD
    refine lv_aload_n hx hb d_Mo_writeTables_19 rfl (lv_at hl 0 rfl) ?_
    refine va_get (D := D) (ci := 13) (v := .int 1) (C := R_Mo) (T := F_Mo) (N := 54) hx hb hts i_Mo hown hK hP 0 rfl rfl 0 (by decide) (hts _ wd_1088) (fun _ h9 => h9) rfl d_Mo_writeTables_20 ?_
    refine lv_if_le (tgt := 28) hx hb d_Mo_writeTables_23 rfl (fun h9 => absurd h9 (by decide)) (fun h23 => ?_)
    refine lv_iconst (v := 0) hx hb d_Mo_writeTables_26 (by decide) ?_
    have hP9 := hP.sub (ws' := [(h, .inr (13, mO r 1 (nI T.length) le lv pg pn (nI np) rs)), (r 1, .inl (cI, 9400, .inl tp)), (r 51, .inl (cI, 8192, .inl wr)), (r 52, .inl (cI, 4200, .inl ro)), (r 46, .inl (cI, 4, .inl pN)), (r 47, .inl (cI, 4, .inl pP)), (r 48, .inl (cI, 4, .inl pS)), (r 49, .inl (cI, 16, .inl pT)), (r 50, .inl (cI, 16, .inl pQ))]) [0, 1, 2, 3, 4, 5, 6, 7, 8] rfl
    have hD9 := hD.sub (ws' := [(h, .inr (13, mO r 1 (nI T.length) le lv pg pn (nI np) rs)), (r 1, .inl (cI, 9400, .inl tp)), (r 51, .inl (cI, 8192, .inl wr)), (r 52, .inl (cI, 4200, .inl ro)), (r 46, .inl (cI, 4, .inl pN)), (r 47, .inl (cI, 4, .inl pP)), (r 48, .inl (cI, 4, .inl pS)), (r 49, .inl (cI, 16, .inl pT)), (r 50, .inl (cI, 16, .inl pQ))]) [0, 1, 2, 3, 4, 5, 6, 7, 8] (by decide) rfl
    have hK9 := hK.sub (tys' := [(cI, .int)]) [0] rfl
    exact W.iret (v := 0) hx hb hr (fun t ht hW => ⟨⟨_, (1, nI T.length, rs, tp, wr, ro), rfl, Or.inl ⟨by first | exact Or.inl h2 | exact Or.inr (Int32.not_le.mp h8), rfl, rfl⟩, ⟨by rw [ht]; exact hP9, va_K.moved hW.alike hK9, hD9⟩⟩, hS.F ht⟩) hS.2.2 d_Mo_writeTables_27
  · refine lv_iload_n hx hb d_Mo_writeTables_5 rfl (lv_at hl 1 rfl) ?_
    refine lv_bipush (v := 31) hx hb d_Mo_writeTables_6 (by decide) ?_
    refine lv_icmp_le (tgt := 15) hx hb d_Mo_writeTables_8 rfl (fun h8 => ?_) (fun h8 => ?_)
    · have hbad : ¬ (ve < 0 ∨ 31 < ve) := fun z => z.elim h2 (Int32.not_lt.mpr h8)
      refine lv_iconst (v := 0) hx hb d_Mo_writeTables_15 (by decide) ?_
      refine va_put (D := D) (ci := 13) (v := .int 0) (ty := .int) (C := R_Mo) (T := F_Mo) (N := 54) hx hb hts i_Mo t_Mo t_Mo_ok n_Mo hown hK hP hD hS 0 rfl rfl 0 (by decide) (hts _ wd_1088) (fun _ h9 => h9) rfl (by decide +kernel) rfl rfl (Nat.le_of_ble_eq_true rfl) d_Mo_writeTables_16 (fun H locs hP hD hS => ?_)
      have hP : va_P D classes [(h, .inr (13, mO r 0 (nI T.length) le lv pg pn (nI np) rs)), (r 1, .inl (cI, 9400, .inl tp)), (r 51, .inl (cI, 8192, .inl wr)), (r 52, .inl (cI, 4200, .inl ro)), (r 46, .inl (cI, 4, .inl pN)), (r 47, .inl (cI, 4, .inl pP)), (r 48, .inl (cI, 4, .inl pS)), (r 49, .inl (cI, 16, .inl pT)), (r 50, .inl (cI, 16, .inl pQ))] H := hP
      have hD : va_D A [(h, .inr (13, mO r 0 (nI T.length) le lv pg pn (nI np) rs)), (r 1, .inl (cI, 9400, .inl tp)), (r 51, .inl (cI, 8192, .inl wr)), (r 52, .inl (cI, 4200, .inl ro)), (r 46, .inl (cI, 4, .inl pN)), (r 47, .inl (cI, 4, .inl pP)), (r 48, .inl (cI, 4, .inl pS)), (r 49, .inl (cI, 16, .inl pT)), (r 50, .inl (cI, 16, .inl pQ))] := hD
      refine lv_aload_n hx hb d_Mo_writeTables_19 rfl (lv_at hl 0 rfl) ?_
      refine va_get (D := D) (ci := 13) (v := .int 0) (C := R_Mo) (T := F_Mo) (N := 54) hx hb hts i_Mo hown hK hP 0 rfl rfl 0 (by decide) (hts _ wd_1088) (fun _ h9 => h9) rfl d_Mo_writeTables_20 ?_
      refine lv_if_le (tgt := 28) hx hb d_Mo_writeTables_23 rfl (fun h23 => ?_) (fun h9 => absurd h9 (by decide))
      refine lv_aload_n hx hb d_Mo_writeTables_28 rfl (lv_at hl 0 rfl) ?_
      refine lv_sipush (v := 184) hx hb d_Mo_writeTables_29 (by decide) ?_
      refine lv_iconst (v := 1) hx hb d_Mo_writeTables_32 (by decide) ?_
      refine lv_aload_n hx hb d_Mo_writeTables_33 rfl (lv_at hl 0 rfl) ?_
      refine va_get (D := D) (ci := 13) (v := .int (nI np)) (C := R_Mo) (T := F_Mo) (N := 54) hx hb hts i_Mo hown hK hP 0 rfl rfl 45 (by decide) (hts _ wd_1133) (fun _ h9 => h9) rfl d_Mo_writeTables_34 ?_
      refine lv_iadd hx hb d_Mo_writeTables_37 ?_
      refine z_topi (w := nI (1 + np)) (nI_add 1 np) ?_
      refine lv_imul hx hb d_Mo_writeTables_38 ?_
      refine z_topi (w := nI (184 * (1 + np))) (pk_mul 184 _) ?_
      have hPc := hP.sub (ws' := [(h, .inr (13, mO r 0 (nI T.length) le lv pg pn (nI np) rs))]) [0] rfl
      have hKc := hK.sub (tys' := []) [] rfl
      refine z_ci (va_runV (As := [.int (nI (184 * (1 + np)))]) (rest := []) ⟨hx, hb, hml, hown, hts⟩ (c_Mo_hasRoom l D cI h r 0 le lv pg pn (nI np) rs T.length (184 * (1 + np)) hn (by omega)) (z_cV hN wd_1443 wd_67 wd_1440 hd_Mo_hasRoom rfl rfl ⟨Nat.le_of_ble_eq_true rfl, Nat.le_of_ble_eq_true rfl⟩ wd_1442 wd_53) (z_preV (va_recv (ci := 13) (q0 := 0) hK hP rfl rfl) hPc hKc hN) rfl rfl hl.1 rfl (lv_room (Nat.le_of_ble_eq_true rfl)) d_Mo_writeTables_39 ⟨Nat.le_of_ble_eq_true rfl, Nat.le_of_ble_eq_true rfl⟩) (fun r39 e39 => ?_)
      subst e39
      refine lv_if_ne (tgt := 47) hx hb d_Mo_writeTables_42 rfl (fun h42 => ?_) (fun h42 => ?_)
      · have h42 : T.length + 188 * (1 + np) ≤ 9400 := by have := mp_room h42; omega
        refine lv_aload_n hx hb d_Mo_writeTables_47 rfl (lv_at hl 0 rfl) ?_
        refine lv_iconst (v := 0) hx hb d_Mo_writeTables_48 (by decide) ?_
        refine lv_ldcw hx hb hown (hts _ wd_1427) d_Mo_writeTables_49 ?_
        refine lv_iload_n hx hb d_Mo_writeTables_52 rfl (lv_at hl 1 rfl) ?_
        have hPc := hP.sub (ws' := [(h, .inr (13, mO r 0 (nI T.length) le lv pg pn (nI np) rs)), (r 52, .inl (cI, 4200, .inl ro))]) [0, 3] rfl
        have hKc := hK.sub (tys' := [(cI, .int)]) [0] rfl
        have hDc := hD.sub (ws' := [(h, .inr (13, mO r 0 (nI T.length) le lv pg pn (nI np) rs)), (r 52, .inl (cI, 4200, .inl ro))]) [0, 3] (by decide) rfl
        have hFc := va_free (wc := [(h, .inr (13, mO r 0 (nI T.length) le lv pg pn (nI np) rs)), (r 52, .inl (cI, 4200, .inl ro))]) hD hS hA [0, 3] rfl
        refine va_callv (va_runV (As := [.int 0, .int 65535, .int ve]) (rest := []) ⟨hx, hb, hml, hown, hts⟩ (c_Mo_beginTable l D H.size cI h r 0 (nI T.length) le lv pg pn (nI np) rs ro 0 65535 ve ) (z_cV hN wd_1447 wd_67 wd_1444 hd_Mo_beginTable rfl rfl ⟨Nat.le_of_ble_eq_true rfl, Nat.le_of_ble_eq_true rfl⟩ wd_1446 wd_54) (z_preVm (va_recv (ci := 13) (q0 := 0) hK hP rfl rfl) hPc hKc hN hDc) rfl rfl hl.1 rfl (lv_room (Nat.le_of_ble_eq_true rfl)) d_Mo_writeTables_53 ⟨Nat.le_of_ble_eq_true rfl, Nat.le_of_ble_eq_true rfl⟩) hS (fun q _ h => hFc q h) hFc (fun g53 t H locs ht hvm e53 hB hz1 hk1 hS => ?_)
        obtain ⟨hP1, hK1, hD1⟩ := hB
        rw [ht] at hP1
        obtain ⟨hP, hD⟩ := va_join (wr := [(r 1, .inl (cI, 9400, .inl tp)), (r 51, .inl (cI, 8192, .inl wr)), (r 46, .inl (cI, 4, .inl pN)), (r 47, .inl (cI, 4, .inl pP)), (r 48, .inl (cI, 4, .inl pS)), (r 49, .inl (cI, 16, .inl pT)), (r 50, .inl (cI, 16, .inl pQ))]) (w1 := [(h, .inr (13, mO r 0 (nI T.length) le lv pg pn (nI np) (nI 9))), (r 52, .inl (cI, 4200, .inl g53))]) hP hD [0, 3] [1, 2, 4, 5, 6, 7, 8] rfl rfl (by decide) (by decide) hk1 hFc hP1 hD1
        clear hk1 hP1 hD1 hFc hPc hDc hz1
        have hP : va_P D classes [(r 1, .inl (cI, 9400, .inl tp)), (r 51, .inl (cI, 8192, .inl wr)), (r 46, .inl (cI, 4, .inl pN)), (r 47, .inl (cI, 4, .inl pP)), (r 48, .inl (cI, 4, .inl pS)), (r 49, .inl (cI, 16, .inl pT)), (r 50, .inl (cI, 16, .inl pQ)), (h, .inr (13, mO r 0 (nI T.length) le lv pg pn (nI np) (nI 9))), (r 52, .inl (cI, 4200, .inl g53))] H := hP
        have hD : va_D A [(r 1, .inl (cI, 9400, .inl tp)), (r 51, .inl (cI, 8192, .inl wr)), (r 46, .inl (cI, 4, .inl pN)), (r 47, .inl (cI, 4, .inl pP)), (r 48, .inl (cI, 4, .inl pS)), (r 49, .inl (cI, 16, .inl pT)), (r 50, .inl (cI, 16, .inl pQ)), (h, .inr (13, mO r 0 (nI T.length) le lv pg pn (nI np) (nI 9))), (r 52, .inl (cI, 4200, .inl g53))] := hD
        have hb9 : nI 9 = nI (mtB 0 65535 ve).length := by rw [mtB_len]
        rw [hb9] at hP hD
        refine lv_iconst (v := 0) hx hb d_Mo_writeTables_56 (by decide) ?_
        refine lv_istore_n (lv' := [(2, .int 0), (0, .ref h), (1, .int ve)]) hx hb d_Mo_writeTables_57 rfl hl (by decide) rfl (fun ls hl => ?_)
        have loop58 : ∀ (N : Nat) (j0 : Nat) (X : List Int32) (g : Nat → Int32) (H : Heap) (locs : List Loc) (ls : Array Slot) (hm : np - j0 < N) (hj : j0 ≤ np) (hX : X = mtB 0 65535 ve ++ mtP pN pP j0) (hg : rl g X) (hl : lv_has ls 4 [(0, .ref h), (1, .int ve), (2, .int (nI j0))]) (hP : va_P D classes [(h, .inr (13, mO r 0 (nI T.length) le lv pg pn (nI np) (nI X.length))), (r 1, .inl (cI, 9400, .inl tp)), (r 51, .inl (cI, 8192, .inl wr)), (r 52, .inl (cI, 4200, .inl g)), (r 46, .inl (cI, 4, .inl pN)), (r 47, .inl (cI, 4, .inl pP)), (r 48, .inl (cI, 4, .inl pS)), (r 49, .inl (cI, 16, .inl pT)), (r 50, .inl (cI, 16, .inl pQ))] H) (hD : va_D A [(h, .inr (13, mO r 0 (nI T.length) le lv pg pn (nI np) (nI X.length))), (r 1, .inl (cI, 9400, .inl tp)), (r 51, .inl (cI, 8192, .inl wr)), (r 52, .inl (cI, 4200, .inl g)), (r 46, .inl (cI, 4, .inl pN)), (r 47, .inl (cI, 4, .inl pP)), (r 48, .inl (cI, 4, .inl pS)), (r 49, .inl (cI, 16, .inl pT)), (r 50, .inl (cI, 16, .inl pQ))]) (hS : va_S A s.heap H locs), W p l e ({ frames := 2, cells := 0, slots := 0, locals := 47 }) s m ([.ref h, .int ve]).toArray below meth cd H locs 0 0 (MQ below (va_Qi (fun r0 (u : MWQ) => ((ve < 0 ∨ 31 < ve) ∧ r0 = 0 ∧ u = (1, nI T.length, rs, tp, wr, ro)) ∨ (¬ (ve < 0 ∨ 31 < ve) ∧ ((¬ T.length + 188 * (1 + np) ≤ 9400 ∧ r0 = -1 ∧ u = (0, nI T.length, rs, tp, wr, ro)) ∨ (T.length + 188 * (1 + np) ≤ 9400 ∧ MT (mtT pN pP pT pQ pp ns ve np T wf np) u r0)))) (fun (u : MWQ) t => zW D (A) [(h, .inr (13, mO r u.1 u.2.1 le lv pg pn (nI np) u.2.2.1)), (r 1, .inl (cI, 9400, .inl u.2.2.2.1)), (r 51, .inl (cI, 8192, .inl u.2.2.2.2.1)), (r 52, .inl (cI, 4200, .inl u.2.2.2.2.2)), (r 46, .inl (cI, 4, .inl pN)), (r 47, .inl (cI, 4, .inl pP)), (r 48, .inl (cI, 4, .inl pS)), (r 49, .inl (cI, 16, .inl pT)), (r 50, .inl (cI, 16, .inl pQ))] [(cI, .int)] t) (A)) ([.ref h, .int ve]).toArray s 0 0 (A)) (F0 m 58 ls []) := by
          intro N58
          induction N58 with
          | zero => intro j0 X g H locs ls hm hj hX hg hl hP hD hS; exact absurd hm (Nat.not_lt_zero _)
          | succ N58 ih58 =>
            intro j0 X g H locs ls hm hj hX hg hl hP hD hS
            refine lv_iload_n hx hb d_Mo_writeTables_58 rfl (lv_at hl 2 rfl) ?_
            refine lv_aload_n hx hb d_Mo_writeTables_59 rfl (lv_at hl 0 rfl) ?_
            refine va_get (D := D) (ci := 13) (v := .int (nI np)) (C := R_Mo) (T := F_Mo) (N := 54) hx hb hts i_Mo hown hK hP 0 rfl rfl 45 (by decide) (hts _ wd_1133) (fun _ h9 => h9) rfl d_Mo_writeTables_60 ?_
            refine lv_icmp_ge (tgt := 100) hx hb d_Mo_writeTables_63 rfl (fun h63 => ?_) (fun h63 => ?_)
            · have h63 := (nI_leI (by omega) (by omega)).mp h63
              have hxl : X.length = 9 + 4 * j0 := by rw [hX, List.length_append, mtB_len, mtP_len]
              obtain rfl : np = j0 := by omega
              refine lv_aload_n hx hb d_Mo_writeTables_100 rfl (lv_at hl 0 rfl) ?_
              refine lv_bipush (v := 11) hx hb d_Mo_writeTables_101 (by decide) ?_
              have hPc := hP.sub (ws' := [(h, .inr (13, mO r 0 (nI T.length) le lv pg pn (nI np) (nI X.length))), (r 52, .inl (cI, 4200, .inl g))]) [0, 3] rfl
              have hKc := hK.sub (tys' := [(cI, .int)]) [0] rfl
              have hDc := hD.sub (ws' := [(h, .inr (13, mO r 0 (nI T.length) le lv pg pn (nI np) (nI X.length))), (r 52, .inl (cI, 4200, .inl g))]) [0, 3] (by decide) rfl
              have hFc := va_free (wc := [(h, .inr (13, mO r 0 (nI T.length) le lv pg pn (nI np) (nI X.length))), (r 52, .inl (cI, 4200, .inl g))]) hD hS hA [0, 3] rfl
              refine va_callv (va_runV (As := [.int 11]) (rest := []) ⟨hx, hb, hml, hown, hts⟩ (c_Mo_sealRow l D H.size cI h r 0 (nI T.length) le lv pg pn (nI np) X g 11 hg (by omega) (by omega)) (z_cV hN wd_1457 wd_67 wd_1454 hd_Mo_sealRow rfl rfl ⟨Nat.le_of_ble_eq_true rfl, Nat.le_of_ble_eq_true rfl⟩ wd_1456 wd_56) (z_preVm (va_recv (ci := 13) (q0 := 0) hK hP rfl rfl) hPc hKc hN hDc) rfl rfl hl.1 rfl (lv_room (Nat.le_of_ble_eq_true rfl)) d_Mo_writeTables_103 ⟨Nat.le_of_ble_eq_true rfl, Nat.le_of_ble_eq_true rfl⟩) hS (fun q _ h => hFc q h) hFc (fun g103 t H locs ht hvm e103 hB hz1 hk1 hS => ?_)
              obtain ⟨hP1, hK1, hD1⟩ := hB
              rw [ht] at hP1
              obtain ⟨hP, hD⟩ := va_join (wr := [(r 1, .inl (cI, 9400, .inl tp)), (r 51, .inl (cI, 8192, .inl wr)), (r 46, .inl (cI, 4, .inl pN)), (r 47, .inl (cI, 4, .inl pP)), (r 48, .inl (cI, 4, .inl pS)), (r 49, .inl (cI, 16, .inl pT)), (r 50, .inl (cI, 16, .inl pQ))]) (w1 := [(h, .inr (13, mO r 0 (nI T.length) le lv pg pn (nI np) (nI 184))), (r 52, .inl (cI, 4200, .inl g103))]) hP hD [0, 3] [1, 2, 4, 5, 6, 7, 8] rfl rfl (by decide) (by decide) hk1 hFc hP1 hD1
              clear hk1 hP1 hD1 hFc hPc hDc hz1
              have hP : va_P D classes [(r 1, .inl (cI, 9400, .inl tp)), (r 51, .inl (cI, 8192, .inl wr)), (r 46, .inl (cI, 4, .inl pN)), (r 47, .inl (cI, 4, .inl pP)), (r 48, .inl (cI, 4, .inl pS)), (r 49, .inl (cI, 16, .inl pT)), (r 50, .inl (cI, 16, .inl pQ)), (h, .inr (13, mO r 0 (nI T.length) le lv pg pn (nI np) (nI 184))), (r 52, .inl (cI, 4200, .inl g103))] H := hP
              have hD : va_D A [(r 1, .inl (cI, 9400, .inl tp)), (r 51, .inl (cI, 8192, .inl wr)), (r 46, .inl (cI, 4, .inl pN)), (r 47, .inl (cI, 4, .inl pP)), (r 48, .inl (cI, 4, .inl pS)), (r 49, .inl (cI, 16, .inl pT)), (r 50, .inl (cI, 16, .inl pQ)), (h, .inr (13, mO r 0 (nI T.length) le lv pg pn (nI np) (nI 184))), (r 52, .inl (cI, 4200, .inl g103))] := hD
              have hs4 : (sealL 11 X).length = 184 := sealL_len (by omega)
              have hs5 : nI 184 = nI (sealL 11 X).length := by rw [hs4]
              rw [hs5] at hP hD
              refine lv_aload_n hx hb d_Mo_writeTables_106 rfl (lv_at hl 0 rfl) ?_
              refine lv_iconst (v := 0) hx hb d_Mo_writeTables_107 (by decide) ?_
              have hPc := hP.sub (ws' := [(h, .inr (13, mO r 0 (nI T.length) le lv pg pn (nI np) (nI (sealL 11 X).length))), (r 1, .inl (cI, 9400, .inl tp)), (r 51, .inl (cI, 8192, .inl wr)), (r 52, .inl (cI, 4200, .inl g103))]) [7, 0, 1, 8] rfl
              have hKc := hK.sub (tys' := [(cI, .int)]) [0] rfl
              have hDc := hD.sub (ws' := [(h, .inr (13, mO r 0 (nI T.length) le lv pg pn (nI np) (nI (sealL 11 X).length))), (r 1, .inl (cI, 9400, .inl tp)), (r 51, .inl (cI, 8192, .inl wr)), (r 52, .inl (cI, 4200, .inl g103))]) [7, 0, 1, 8] (by decide) rfl
              have hFc := va_free (wc := [(h, .inr (13, mO r 0 (nI T.length) le lv pg pn (nI np) (nI (sealL 11 X).length))), (r 1, .inl (cI, 9400, .inl tp)), (r 51, .inl (cI, 8192, .inl wr)), (r 52, .inl (cI, 4200, .inl g103))]) hD hS hA [7, 0, 1, 8] rfl
              refine va_callv (va_runV (As := [.int (nI 0)]) (rest := []) ⟨hx, hb, hml, hown, hts⟩ (c_Mo_writePackets l D H.size cI h r 0 le lv pg pn (nI np) (sealL 11 X) g103 T tp (wf 0) 0 wr e103 (by omega) htp (by rw [hs4]; omega) (by omega) (hwf _ (by omega)) (by have := hwb 0 (by omega); omega)) (z_cV hN wd_1461 wd_67 wd_1458 hd_Mo_writePackets rfl rfl ⟨Nat.le_of_ble_eq_true rfl, Nat.le_of_ble_eq_true rfl⟩ wd_1460 wd_57) (z_preVm (va_recv (ci := 13) (q0 := 7) hK hP rfl rfl) hPc hKc hN hDc) rfl rfl hl.1 rfl (lv_room (Nat.le_of_ble_eq_true rfl)) d_Mo_writeTables_108 ⟨Nat.le_of_ble_eq_true rfl, Nat.le_of_ble_eq_true rfl⟩) hS (fun q _ h => hFc q h) hFc (fun g108 t H locs ht hvm e108 hB hz1 hk1 hS => ?_)
              obtain ⟨hP1, hK1, hD1⟩ := hB
              rw [ht] at hP1
              obtain ⟨hP, hD⟩ := va_join (wr := [(r 46, .inl (cI, 4, .inl pN)), (r 47, .inl (cI, 4, .inl pP)), (r 48, .inl (cI, 4, .inl pS)), (r 49, .inl (cI, 16, .inl pT)), (r 50, .inl (cI, 16, .inl pQ))]) (w1 := [(h, .inr (13, mO r 0 (nI (T ++ ppL 0 (wf 0) (sealL 11 X).length 0 (sealL 11 X)).length) le lv pg pn (nI np) (nI (sealL 11 X).length))), (r 1, .inl (cI, 9400, .inl g108)), (r 51, .inl (cI, 8192, .inl (upd wr 0 (nI ((wf 0) + ((sealL 11 X).length + 183) / 184))))), (r 52, .inl (cI, 4200, .inl g103))]) hP hD [7, 0, 1, 8] [2, 3, 4, 5, 6] rfl rfl (by decide) (by decide) hk1 hFc hP1 hD1
              clear hk1 hP1 hD1 hFc hPc hDc hz1
              have hP : va_P D classes [(r 46, .inl (cI, 4, .inl pN)), (r 47, .inl (cI, 4, .inl pP)), (r 48, .inl (cI, 4, .inl pS)), (r 49, .inl (cI, 16, .inl pT)), (r 50, .inl (cI, 16, .inl pQ)), (h, .inr (13, mO r 0 (nI (T ++ ppL 0 (wf 0) (sealL 11 X).length 0 (sealL 11 X)).length) le lv pg pn (nI np) (nI (sealL 11 X).length))), (r 1, .inl (cI, 9400, .inl g108)), (r 51, .inl (cI, 8192, .inl (upd wr 0 (nI ((wf 0) + ((sealL 11 X).length + 183) / 184))))), (r 52, .inl (cI, 4200, .inl g103))] H := hP
              have hD : va_D A [(r 46, .inl (cI, 4, .inl pN)), (r 47, .inl (cI, 4, .inl pP)), (r 48, .inl (cI, 4, .inl pS)), (r 49, .inl (cI, 16, .inl pT)), (r 50, .inl (cI, 16, .inl pQ)), (h, .inr (13, mO r 0 (nI (T ++ ppL 0 (wf 0) (sealL 11 X).length 0 (sealL 11 X)).length) le lv pg pn (nI np) (nI (sealL 11 X).length))), (r 1, .inl (cI, 9400, .inl g108)), (r 51, .inl (cI, 8192, .inl (upd wr 0 (nI ((wf 0) + ((sealL 11 X).length + 183) / 184))))), (r 52, .inl (cI, 4200, .inl g103))] := hD
              refine lv_iconst (v := 0) hx hb d_Mo_writeTables_111 (by decide) ?_
              refine lv_istore_n (lv' := [(2, .int 0), (0, .ref h), (1, .int ve)]) hx hb d_Mo_writeTables_112 rfl hl (by decide) rfl (fun ls hl => ?_)
              have loop113 : ∀ (N : Nat) (j : Nat) (Z : List Int32) (tg : Nat → Int32) (wg : Nat → Nat) (wh : Nat → Int32) (rs9 : Int32) (g : Nat → Int32) (H : Heap) (locs : List Loc) (ls : Array Slot) (hm : np - j < N) (hj : j ≤ np) (hTW : (Z, wg) = mtT pN pP pT pQ pp ns ve np T wf j) (hZl : Z.length = T.length + 188 * (j + 1)) (htg : rl tg Z) (hwg : ∀ x, x < 8192 → wh x = nI (wg x)) (hwl : ∀ x, x < 8192 → wg x ≤ wf x + (j + 1)) (hl : lv_has ls 4 [(0, .ref h), (1, .int ve), (2, .int (nI j))]) (hP : va_P D classes [(h, .inr (13, mO r 0 (nI Z.length) le lv pg pn (nI np) rs9)), (r 1, .inl (cI, 9400, .inl tg)), (r 51, .inl (cI, 8192, .inl wh)), (r 52, .inl (cI, 4200, .inl g)), (r 46, .inl (cI, 4, .inl pN)), (r 47, .inl (cI, 4, .inl pP)), (r 48, .inl (cI, 4, .inl pS)), (r 49, .inl (cI, 16, .inl pT)), (r 50, .inl (cI, 16, .inl pQ))] H) (hD : va_D A [(h, .inr (13, mO r 0 (nI Z.length) le lv pg pn (nI np) rs9)), (r 1, .inl (cI, 9400, .inl tg)), (r 51, .inl (cI, 8192, .inl wh)), (r 52, .inl (cI, 4200, .inl g)), (r 46, .inl (cI, 4, .inl pN)), (r 47, .inl (cI, 4, .inl pP)), (r 48, .inl (cI, 4, .inl pS)), (r 49, .inl (cI, 16, .inl pT)), (r 50, .inl (cI, 16, .inl pQ))]) (hS : va_S A s.heap H locs), W p l e ({ frames := 2, cells := 0, slots := 0, locals := 47 }) s m ([.ref h, .int ve]).toArray below meth cd H locs 0 0 (MQ below (va_Qi (fun r0 (u : MWQ) => ((ve < 0 ∨ 31 < ve) ∧ r0 = 0 ∧ u = (1, nI T.length, rs, tp, wr, ro)) ∨ (¬ (ve < 0 ∨ 31 < ve) ∧ ((¬ T.length + 188 * (1 + np) ≤ 9400 ∧ r0 = -1 ∧ u = (0, nI T.length, rs, tp, wr, ro)) ∨ (T.length + 188 * (1 + np) ≤ 9400 ∧ MT (mtT pN pP pT pQ pp ns ve np T wf np) u r0)))) (fun (u : MWQ) t => zW D (A) [(h, .inr (13, mO r u.1 u.2.1 le lv pg pn (nI np) u.2.2.1)), (r 1, .inl (cI, 9400, .inl u.2.2.2.1)), (r 51, .inl (cI, 8192, .inl u.2.2.2.2.1)), (r 52, .inl (cI, 4200, .inl u.2.2.2.2.2)), (r 46, .inl (cI, 4, .inl pN)), (r 47, .inl (cI, 4, .inl pP)), (r 48, .inl (cI, 4, .inl pS)), (r 49, .inl (cI, 16, .inl pT)), (r 50, .inl (cI, 16, .inl pQ))] [(cI, .int)] t) (A)) ([.ref h, .int ve]).toArray s 0 0 (A)) (F0 m 113 ls []) := by
                intro N113
                induction N113 with
                | zero => intro j Z tg wg wh rs9 g H locs ls hm hj hTW hZl htg hwg hwl hl hP hD hS; exact absurd hm (Nat.not_lt_zero _)
                | succ N113 ih113 =>
                  intro j Z tg wg wh rs9 g H locs ls hm hj hTW hZl htg hwg hwl hl hP hD hS
                  refine lv_iload_n hx hb d_Mo_writeTables_113 rfl (lv_at hl 2 rfl) ?_
                  refine lv_aload_n hx hb d_Mo_writeTables_114 rfl (lv_at hl 0 rfl) ?_
                  refine va_get (D := D) (ci := 13) (v := .int (nI np)) (C := R_Mo) (T := F_Mo) (N := 54) hx hb hts i_Mo hown hK hP 0 rfl rfl 45 (by decide) (hts _ wd_1133) (fun _ h9 => h9) rfl d_Mo_writeTables_115 ?_
                  refine lv_icmp_ge (tgt := 258) hx hb d_Mo_writeTables_118 rfl (fun h118 => ?_) (fun h118 => ?_)
                  · have h118 := (nI_leI (by omega) (by omega)).mp h118
                    obtain rfl : np = j := by omega
                    refine lv_aload_n hx hb d_Mo_writeTables_258 rfl (lv_at hl 0 rfl) ?_
                    refine va_get (D := D) (ci := 13) (v := .int (nI Z.length)) (C := R_Mo) (T := F_Mo) (N := 54) hx hb hts i_Mo hown hK hP 0 rfl rfl 2 (by decide) (hts _ wd_1090) (fun _ h9 => h9) rfl d_Mo_writeTables_259 ?_
                    have hP9 := hP.sub (ws' := [(h, .inr (13, mO r 0 (nI Z.length) le lv pg pn (nI np) rs9)), (r 1, .inl (cI, 9400, .inl tg)), (r 51, .inl (cI, 8192, .inl wh)), (r 52, .inl (cI, 4200, .inl g)), (r 46, .inl (cI, 4, .inl pN)), (r 47, .inl (cI, 4, .inl pP)), (r 48, .inl (cI, 4, .inl pS)), (r 49, .inl (cI, 16, .inl pT)), (r 50, .inl (cI, 16, .inl pQ))]) [0, 1, 2, 3, 4, 5, 6, 7, 8] rfl
                    have hD9 := hD.sub (ws' := [(h, .inr (13, mO r 0 (nI Z.length) le lv pg pn (nI np) rs9)), (r 1, .inl (cI, 9400, .inl tg)), (r 51, .inl (cI, 8192, .inl wh)), (r 52, .inl (cI, 4200, .inl g)), (r 46, .inl (cI, 4, .inl pN)), (r 47, .inl (cI, 4, .inl pP)), (r 48, .inl (cI, 4, .inl pS)), (r 49, .inl (cI, 16, .inl pT)), (r 50, .inl (cI, 16, .inl pQ))]) [0, 1, 2, 3, 4, 5, 6, 7, 8] (by decide) rfl
                    have hK9 := hK.sub (tys' := [(cI, .int)]) [0] rfl
                    exact W.iret (v := (nI Z.length)) hx hb hr (fun t ht hW => ⟨⟨_, (0, nI Z.length, rs9, tg, wh, g), rfl, Or.inr ⟨hbad, Or.inr ⟨h42, by rw [← hTW]; exact ⟨rfl, htg, rfl, hwg, rfl⟩⟩⟩, ⟨by rw [ht]; exact hP9, va_K.moved hW.alike hK9, hD9⟩⟩, hS.F ht⟩) hS.2.2 d_Mo_writeTables_262
                  · have h118 := mt (nI_leI (by omega) (by omega)).mpr h118
                    have hpj := hpp j (by omega)
                    have hnj := hns j (by omega)
                    have hwj := hwl _ hpj.2
                    have hwk := hwb _ hpj.2
                    refine lv_aload_n hx hb d_Mo_writeTables_121 rfl (lv_at hl 0 rfl) ?_
                    refine lv_iconst (v := 2) hx hb d_Mo_writeTables_122 (by decide) ?_
                    refine lv_aload_n hx hb d_Mo_writeTables_123 rfl (lv_at hl 0 rfl) ?_
                    refine va_get (D := D) (ci := 13) (v := .ref (r 46)) (C := R_Mo) (T := F_Mo) (N := 54) hx hb hts i_Mo hown hK hP 0 rfl rfl 46 (by decide) (hts _ wd_1134) (fun _ h9 => h9) rfl d_Mo_writeTables_124 ?_
                    refine lv_iload_n hx hb d_Mo_writeTables_127 rfl (lv_at hl 2 rfl) ?_
                    refine z_iald hx hb hK hP 4 0 rfl rfl j rfl (by omega) (by omega) d_Mo_writeTables_128 ?_
                    refine lv_iload_n hx hb d_Mo_writeTables_129 rfl (lv_at hl 1 rfl) ?_
                    have hPc := hP.sub (ws' := [(h, .inr (13, mO r 0 (nI Z.length) le lv pg pn (nI np) rs9)), (r 52, .inl (cI, 4200, .inl g))]) [0, 3] rfl
                    have hKc := hK.sub (tys' := [(cI, .int)]) [0] rfl
                    have hDc := hD.sub (ws' := [(h, .inr (13, mO r 0 (nI Z.length) le lv pg pn (nI np) rs9)), (r 52, .inl (cI, 4200, .inl g))]) [0, 3] (by decide) rfl
                    have hFc := va_free (wc := [(h, .inr (13, mO r 0 (nI Z.length) le lv pg pn (nI np) rs9)), (r 52, .inl (cI, 4200, .inl g))]) hD hS hA [0, 3] rfl
                    refine va_callv (va_runV (As := [.int 2, .int (pN j), .int ve]) (rest := []) ⟨hx, hb, hml, hown, hts⟩ (c_Mo_beginTable l D H.size cI h r 0 (nI Z.length) le lv pg pn (nI np) rs9 g 2 (pN j) ve ) (z_cV hN wd_1447 wd_67 wd_1444 hd_Mo_beginTable rfl rfl ⟨Nat.le_of_ble_eq_true rfl, Nat.le_of_ble_eq_true rfl⟩ wd_1446 wd_54) (z_preVm (va_recv (ci := 13) (q0 := 0) hK hP rfl rfl) hPc hKc hN hDc) rfl rfl hl.1 rfl (lv_room (Nat.le_of_ble_eq_true rfl)) d_Mo_writeTables_130 ⟨Nat.le_of_ble_eq_true rfl, Nat.le_of_ble_eq_true rfl⟩) hS (fun q _ h => hFc q h) hFc (fun g130 t H locs ht hvm e130 hB hz1 hk1 hS => ?_)
                    obtain ⟨hP1, hK1, hD1⟩ := hB
                    rw [ht] at hP1
                    obtain ⟨hP, hD⟩ := va_join (wr := [(r 1, .inl (cI, 9400, .inl tg)), (r 51, .inl (cI, 8192, .inl wh)), (r 46, .inl (cI, 4, .inl pN)), (r 47, .inl (cI, 4, .inl pP)), (r 48, .inl (cI, 4, .inl pS)), (r 49, .inl (cI, 16, .inl pT)), (r 50, .inl (cI, 16, .inl pQ))]) (w1 := [(h, .inr (13, mO r 0 (nI Z.length) le lv pg pn (nI np) (nI 9))), (r 52, .inl (cI, 4200, .inl g130))]) hP hD [0, 3] [1, 2, 4, 5, 6, 7, 8] rfl rfl (by decide) (by decide) hk1 hFc hP1 hD1
                    clear hk1 hP1 hD1 hFc hPc hDc hz1
                    have hP : va_P D classes [(r 1, .inl (cI, 9400, .inl tg)), (r 51, .inl (cI, 8192, .inl wh)), (r 46, .inl (cI, 4, .inl pN)), (r 47, .inl (cI, 4, .inl pP)), (r 48, .inl (cI, 4, .inl pS)), (r 49, .inl (cI, 16, .inl pT)), (r 50, .inl (cI, 16, .inl pQ)), (h, .inr (13, mO r 0 (nI Z.length) le lv pg pn (nI np) (nI 9))), (r 52, .inl (cI, 4200, .inl g130))] H := hP
                    have hD : va_D A [(r 1, .inl (cI, 9400, .inl tg)), (r 51, .inl (cI, 8192, .inl wh)), (r 46, .inl (cI, 4, .inl pN)), (r 47, .inl (cI, 4, .inl pP)), (r 48, .inl (cI, 4, .inl pS)), (r 49, .inl (cI, 16, .inl pT)), (r 50, .inl (cI, 16, .inl pQ)), (h, .inr (13, mO r 0 (nI Z.length) le lv pg pn (nI np) (nI 9))), (r 52, .inl (cI, 4200, .inl g130))] := hD
                    have hb9 : nI 9 = nI (mtB 2 (pN j) ve).length := by rw [mtB_len]
                    rw [hb9] at hP hD
                    have hxl := mtB_len 2 (pN j) ve
                    refine lv_aload_n hx hb d_Mo_writeTables_133 rfl (lv_at hl 0 rfl) ?_
                    refine lv_ldc2 hx hb hown (hts _ wd_1453) d_Mo_writeTables_134 ?_
                    refine lv_aload_n hx hb d_Mo_writeTables_137 rfl (lv_at hl 0 rfl) ?_
                    refine va_get (D := D) (ci := 13) (v := .ref (r 48)) (C := R_Mo) (T := F_Mo) (N := 54) hx hb hts i_Mo hown hK hP 7 rfl rfl 48 (by decide) (hts _ wd_1136) (fun _ h9 => h9) rfl d_Mo_writeTables_138 ?_
                    refine lv_iload_n hx hb d_Mo_writeTables_141 rfl (lv_at hl 2 rfl) ?_
                    refine z_iald hx hb hK hP 4 0 rfl rfl j rfl (by omega) (by omega) d_Mo_writeTables_142 ?_
                    refine z_topi (w := nI (ns j)) hnj.1 ?_
                    suffices key143 : W p l e ({ frames := 2, cells := 0, slots := 0, locals := 47 }) s m ([.ref h, .int ve]).toArray below meth cd H locs 0 0 (MQ below (va_Qi (fun r0 (u : MWQ) => ((ve < 0 ∨ 31 < ve) ∧ r0 = 0 ∧ u = (1, nI T.length, rs, tp, wr, ro)) ∨ (¬ (ve < 0 ∨ 31 < ve) ∧ ((¬ T.length + 188 * (1 + np) ≤ 9400 ∧ r0 = -1 ∧ u = (0, nI T.length, rs, tp, wr, ro)) ∨ (T.length + 188 * (1 + np) ≤ 9400 ∧ MT (mtT pN pP pT pQ pp ns ve np T wf np) u r0)))) (fun (u : MWQ) t => zW D (A) [(h, .inr (13, mO r u.1 u.2.1 le lv pg pn (nI np) u.2.2.1)), (r 1, .inl (cI, 9400, .inl u.2.2.2.1)), (r 51, .inl (cI, 8192, .inl u.2.2.2.2.1)), (r 52, .inl (cI, 4200, .inl u.2.2.2.2.2)), (r 46, .inl (cI, 4, .inl pN)), (r 47, .inl (cI, 4, .inl pP)), (r 48, .inl (cI, 4, .inl pS)), (r 49, .inl (cI, 16, .inl pT)), (r 50, .inl (cI, 16, .inl pQ))] [(cI, .int)] t) (A)) ([.ref h, .int ve]).toArray s 0 0 (A)) (F0 m 160 ls [.int (if ns j = 0 then 8191 else pQ (4 * j)), .long 57344, .ref h]) by
                      refine lv_if_ne (tgt := 152) hx hb d_Mo_writeTables_143 rfl (fun h143 => ?_) (fun h143 => ?_)
                      · refine lv_aload_n hx hb d_Mo_writeTables_152 rfl (lv_at hl 0 rfl) ?_
                        refine va_get (D := D) (ci := 13) (v := .ref (r 50)) (C := R_Mo) (T := F_Mo) (N := 54) hx hb hts i_Mo hown hK hP 7 rfl rfl 50 (by decide) (hts _ wd_1138) (fun _ h9 => h9) rfl d_Mo_writeTables_153 ?_
                        refine lv_iconst (v := 4) hx hb d_Mo_writeTables_156 (by decide) ?_
                        refine lv_iload_n hx hb d_Mo_writeTables_157 rfl (lv_at hl 2 rfl) ?_
                        refine lv_imul hx hb d_Mo_writeTables_158 ?_
                        refine z_topi (w := nI (4 * j)) (pk_mul 4 _) ?_
                        refine z_iald hx hb hK hP 6 0 rfl rfl (4 * j) rfl (by omega) (by omega) d_Mo_writeTables_159 ?_
                        refine z_topi (w := (if ns j = 0 then 8191 else pQ (4 * j))) ((if_neg (fun z => h143 (by rw [z]; rfl))).symm) ?_
                        exact key143
                      · refine lv_sipush (v := 8191) hx hb d_Mo_writeTables_146 (by decide) ?_
                        refine lv_goto (tgt := 160) hx hb d_Mo_writeTables_149 rfl ?_
                        refine z_topi (w := (if ns j = 0 then 8191 else pQ (4 * j))) ((if_pos ((nI_eq (b := 0) (by omega) (by omega)).mp h143)).symm) ?_
                        exact key143
                    refine lv_i2l (v := (if ns j = 0 then 8191 else pQ (4 * j)).toInt64) hx hb d_Mo_writeTables_160 rfl ?_
                    refine lv_lor hx hb d_Mo_writeTables_161 ?_
                    refine lv_iconst (v := 2) hx hb d_Mo_writeTables_162 (by decide) ?_
                    have hPc := hP.sub (ws' := [(h, .inr (13, mO r 0 (nI Z.length) le lv pg pn (nI np) (nI (mtB 2 (pN j) ve).length))), (r 52, .inl (cI, 4200, .inl g130))]) [7, 8] rfl
                    have hKc := hK.sub (tys' := [(cI, .int)]) [0] rfl
                    have hDc := hD.sub (ws' := [(h, .inr (13, mO r 0 (nI Z.length) le lv pg pn (nI np) (nI (mtB 2 (pN j) ve).length))), (r 52, .inl (cI, 4200, .inl g130))]) [7, 8] (by decide) rfl
                    have hFc := va_free (wc := [(h, .inr (13, mO r 0 (nI Z.length) le lv pg pn (nI np) (nI (mtB 2 (pN j) ve).length))), (r 52, .inl (cI, 4200, .inl g130))]) hD hS hA [7, 8] rfl
                    refine va_callv (va_runV (As := [.long (57344 ||| ((if ns j = 0 then 8191 else pQ (4 * j)).toInt64)), .int (nI 2)]) (rest := []) ⟨hx, hb, hml, hown, hts⟩ (c_Mo_put l D H.size cI h r 0 (nI Z.length) le lv pg pn (nI np) (mtB 2 (pN j) ve) g130 (57344 ||| ((if ns j = 0 then 8191 else pQ (4 * j)).toInt64)) 2 e130 (by omega) (by omega) (by omega)) (z_cV hN wd_1451 wd_67 wd_1448 hd_Mo_put rfl rfl ⟨Nat.le_of_ble_eq_true rfl, Nat.le_of_ble_eq_true rfl⟩ wd_1450 wd_55) (z_preVm (va_recv (ci := 13) (q0 := 7) hK hP rfl rfl) hPc hKc hN hDc) rfl rfl hl.1 rfl (lv_room (Nat.le_of_ble_eq_true rfl)) d_Mo_writeTables_163 ⟨Nat.le_of_ble_eq_true rfl, Nat.le_of_ble_eq_true rfl⟩) hS (fun q _ h => hFc q h) hFc (fun g163 t H locs ht hvm e163 hB hz1 hk1 hS => ?_)
                    obtain ⟨hP1, hK1, hD1⟩ := hB
                    rw [ht] at hP1
                    obtain ⟨hP, hD⟩ := va_join (wr := [(r 1, .inl (cI, 9400, .inl tg)), (r 51, .inl (cI, 8192, .inl wh)), (r 46, .inl (cI, 4, .inl pN)), (r 47, .inl (cI, 4, .inl pP)), (r 48, .inl (cI, 4, .inl pS)), (r 49, .inl (cI, 16, .inl pT)), (r 50, .inl (cI, 16, .inl pQ))]) (w1 := [(h, .inr (13, mO r 0 (nI Z.length) le lv pg pn (nI np) (nI ((mtB 2 (pN j) ve) ++ bsL (57344 ||| ((if ns j = 0 then 8191 else pQ (4 * j)).toInt64)) 2).length))), (r 52, .inl (cI, 4200, .inl g163))]) hP hD [7, 8] [0, 1, 2, 3, 4, 5, 6] rfl rfl (by decide) (by decide) hk1 hFc hP1 hD1
                    clear hk1 hP1 hD1 hFc hPc hDc hz1
                    have hP : va_P D classes [(r 1, .inl (cI, 9400, .inl tg)), (r 51, .inl (cI, 8192, .inl wh)), (r 46, .inl (cI, 4, .inl pN)), (r 47, .inl (cI, 4, .inl pP)), (r 48, .inl (cI, 4, .inl pS)), (r 49, .inl (cI, 16, .inl pT)), (r 50, .inl (cI, 16, .inl pQ)), (h, .inr (13, mO r 0 (nI Z.length) le lv pg pn (nI np) (nI ((mtB 2 (pN j) ve) ++ bsL (57344 ||| ((if ns j = 0 then 8191 else pQ (4 * j)).toInt64)) 2).length))), (r 52, .inl (cI, 4200, .inl g163))] H := hP
                    have hD : va_D A [(r 1, .inl (cI, 9400, .inl tg)), (r 51, .inl (cI, 8192, .inl wh)), (r 46, .inl (cI, 4, .inl pN)), (r 47, .inl (cI, 4, .inl pP)), (r 48, .inl (cI, 4, .inl pS)), (r 49, .inl (cI, 16, .inl pT)), (r 50, .inl (cI, 16, .inl pQ)), (h, .inr (13, mO r 0 (nI Z.length) le lv pg pn (nI np) (nI ((mtB 2 (pN j) ve) ++ bsL (57344 ||| ((if ns j = 0 then 8191 else pQ (4 * j)).toInt64)) 2).length))), (r 52, .inl (cI, 4200, .inl g163))] := hD
                    refine lv_aload_n hx hb d_Mo_writeTables_166 rfl (lv_at hl 0 rfl) ?_
                    refine lv_ldc2 hx hb hown (hts _ wd_1462) d_Mo_writeTables_167 ?_
                    refine lv_iconst (v := 2) hx hb d_Mo_writeTables_170 (by decide) ?_
                    have hPc := hP.sub (ws' := [(h, .inr (13, mO r 0 (nI Z.length) le lv pg pn (nI np) (nI ((mtB 2 (pN j) ve) ++ bsL (57344 ||| ((if ns j = 0 then 8191 else pQ (4 * j)).toInt64)) 2).length))), (r 52, .inl (cI, 4200, .inl g163))]) [7, 8] rfl
                    have hKc := hK.sub (tys' := [(cI, .int)]) [0] rfl
                    have hDc := hD.sub (ws' := [(h, .inr (13, mO r 0 (nI Z.length) le lv pg pn (nI np) (nI ((mtB 2 (pN j) ve) ++ bsL (57344 ||| ((if ns j = 0 then 8191 else pQ (4 * j)).toInt64)) 2).length))), (r 52, .inl (cI, 4200, .inl g163))]) [7, 8] (by decide) rfl
                    have hFc := va_free (wc := [(h, .inr (13, mO r 0 (nI Z.length) le lv pg pn (nI np) (nI ((mtB 2 (pN j) ve) ++ bsL (57344 ||| ((if ns j = 0 then 8191 else pQ (4 * j)).toInt64)) 2).length))), (r 52, .inl (cI, 4200, .inl g163))]) hD hS hA [7, 8] rfl
                    refine va_callv (va_runV (As := [.long 61440, .int (nI 2)]) (rest := []) ⟨hx, hb, hml, hown, hts⟩ (c_Mo_put l D H.size cI h r 0 (nI Z.length) le lv pg pn (nI np) ((mtB 2 (pN j) ve) ++ bsL (57344 ||| ((if ns j = 0 then 8191 else pQ (4 * j)).toInt64)) 2) g163 61440 2 e163 (by (try simp only [List.length_append, bs_len, mtB_len]); omega) (by omega) (by omega)) (z_cV hN wd_1451 wd_67 wd_1448 hd_Mo_put rfl rfl ⟨Nat.le_of_ble_eq_true rfl, Nat.le_of_ble_eq_true rfl⟩ wd_1450 wd_55) (z_preVm (va_recv (ci := 13) (q0 := 7) hK hP rfl rfl) hPc hKc hN hDc) rfl rfl hl.1 rfl (lv_room (Nat.le_of_ble_eq_true rfl)) d_Mo_writeTables_171 ⟨Nat.le_of_ble_eq_true rfl, Nat.le_of_ble_eq_true rfl⟩) hS (fun q _ h => hFc q h) hFc (fun g171 t H locs ht hvm e171 hB hz1 hk1 hS => ?_)
                    obtain ⟨hP1, hK1, hD1⟩ := hB
                    rw [ht] at hP1
                    obtain ⟨hP, hD⟩ := va_join (wr := [(r 1, .inl (cI, 9400, .inl tg)), (r 51, .inl (cI, 8192, .inl wh)), (r 46, .inl (cI, 4, .inl pN)), (r 47, .inl (cI, 4, .inl pP)), (r 48, .inl (cI, 4, .inl pS)), (r 49, .inl (cI, 16, .inl pT)), (r 50, .inl (cI, 16, .inl pQ))]) (w1 := [(h, .inr (13, mO r 0 (nI Z.length) le lv pg pn (nI np) (nI (((mtB 2 (pN j) ve) ++ bsL (57344 ||| ((if ns j = 0 then 8191 else pQ (4 * j)).toInt64)) 2) ++ bsL 61440 2).length))), (r 52, .inl (cI, 4200, .inl g171))]) hP hD [7, 8] [0, 1, 2, 3, 4, 5, 6] rfl rfl (by decide) (by decide) hk1 hFc hP1 hD1
                    clear hk1 hP1 hD1 hFc hPc hDc hz1
                    have hP : va_P D classes [(r 1, .inl (cI, 9400, .inl tg)), (r 51, .inl (cI, 8192, .inl wh)), (r 46, .inl (cI, 4, .inl pN)), (r 47, .inl (cI, 4, .inl pP)), (r 48, .inl (cI, 4, .inl pS)), (r 49, .inl (cI, 16, .inl pT)), (r 50, .inl (cI, 16, .inl pQ)), (h, .inr (13, mO r 0 (nI Z.length) le lv pg pn (nI np) (nI (((mtB 2 (pN j) ve) ++ bsL (57344 ||| ((if ns j = 0 then 8191 else pQ (4 * j)).toInt64)) 2) ++ bsL 61440 2).length))), (r 52, .inl (cI, 4200, .inl g171))] H := hP
                    have hD : va_D A [(r 1, .inl (cI, 9400, .inl tg)), (r 51, .inl (cI, 8192, .inl wh)), (r 46, .inl (cI, 4, .inl pN)), (r 47, .inl (cI, 4, .inl pP)), (r 48, .inl (cI, 4, .inl pS)), (r 49, .inl (cI, 16, .inl pT)), (r 50, .inl (cI, 16, .inl pQ)), (h, .inr (13, mO r 0 (nI Z.length) le lv pg pn (nI np) (nI (((mtB 2 (pN j) ve) ++ bsL (57344 ||| ((if ns j = 0 then 8191 else pQ (4 * j)).toInt64)) 2) ++ bsL 61440 2).length))), (r 52, .inl (cI, 4200, .inl g171))] := hD
                    refine lv_iconst (v := 0) hx hb d_Mo_writeTables_174 (by decide) ?_
                    refine lv_istore_n (lv' := [(3, .int 0), (0, .ref h), (1, .int ve), (2, .int (nI j))]) hx hb d_Mo_writeTables_175 rfl hl (by decide) rfl (fun ls hl => ?_)
                    have loop176 : ∀ (N : Nat) (k : Nat) (X : List Int32) (g : Nat → Int32) (H : Heap) (locs : List Loc) (ls : Array Slot) (hm : ns j - k < N) (hk : k ≤ ns j) (hX : X = mtC pN pQ ns ve j ++ mtS pT pQ j k) (hg : rl g X) (hl : lv_has ls 4 [(0, .ref h), (1, .int ve), (2, .int (nI j)), (3, .int (nI k))]) (hP : va_P D classes [(h, .inr (13, mO r 0 (nI Z.length) le lv pg pn (nI np) (nI X.length))), (r 1, .inl (cI, 9400, .inl tg)), (r 51, .inl (cI, 8192, .inl wh)), (r 52, .inl (cI, 4200, .inl g)), (r 46, .inl (cI, 4, .inl pN)), (r 47, .inl (cI, 4, .inl pP)), (r 48, .inl (cI, 4, .inl pS)), (r 49, .inl (cI, 16, .inl pT)), (r 50, .inl (cI, 16, .inl pQ))] H) (hD : va_D A [(h, .inr (13, mO r 0 (nI Z.length) le lv pg pn (nI np) (nI X.length))), (r 1, .inl (cI, 9400, .inl tg)), (r 51, .inl (cI, 8192, .inl wh)), (r 52, .inl (cI, 4200, .inl g)), (r 46, .inl (cI, 4, .inl pN)), (r 47, .inl (cI, 4, .inl pP)), (r 48, .inl (cI, 4, .inl pS)), (r 49, .inl (cI, 16, .inl pT)), (r 50, .inl (cI, 16, .inl pQ))]) (hS : va_S A s.heap H locs), W p l e ({ frames := 2, cells := 0, slots := 0, locals := 47 }) s m ([.ref h, .int ve]).toArray below meth cd H locs 0 0 (MQ below (va_Qi (fun r0 (u : MWQ) => ((ve < 0 ∨ 31 < ve) ∧ r0 = 0 ∧ u = (1, nI T.length, rs, tp, wr, ro)) ∨ (¬ (ve < 0 ∨ 31 < ve) ∧ ((¬ T.length + 188 * (1 + np) ≤ 9400 ∧ r0 = -1 ∧ u = (0, nI T.length, rs, tp, wr, ro)) ∨ (T.length + 188 * (1 + np) ≤ 9400 ∧ MT (mtT pN pP pT pQ pp ns ve np T wf np) u r0)))) (fun (u : MWQ) t => zW D (A) [(h, .inr (13, mO r u.1 u.2.1 le lv pg pn (nI np) u.2.2.1)), (r 1, .inl (cI, 9400, .inl u.2.2.2.1)), (r 51, .inl (cI, 8192, .inl u.2.2.2.2.1)), (r 52, .inl (cI, 4200, .inl u.2.2.2.2.2)), (r 46, .inl (cI, 4, .inl pN)), (r 47, .inl (cI, 4, .inl pP)), (r 48, .inl (cI, 4, .inl pS)), (r 49, .inl (cI, 16, .inl pT)), (r 50, .inl (cI, 16, .inl pQ))] [(cI, .int)] t) (A)) ([.ref h, .int ve]).toArray s 0 0 (A)) (F0 m 176 ls []) := by
                      intro N176
                      induction N176 with
                      | zero => intro k X g H locs ls hm hk hX hg hl hP hD hS; exact absurd hm (Nat.not_lt_zero _)
                      | succ N176 ih176 =>
                        intro k X g H locs ls hm hk hX hg hl hP hD hS
                        refine lv_iload_n hx hb d_Mo_writeTables_176 rfl (lv_at hl 3 rfl) ?_
                        refine lv_aload_n hx hb d_Mo_writeTables_177 rfl (lv_at hl 0 rfl) ?_
                        refine va_get (D := D) (ci := 13) (v := .ref (r 48)) (C := R_Mo) (T := F_Mo) (N := 54) hx hb hts i_Mo hown hK hP 0 rfl rfl 48 (by decide) (hts _ wd_1136) (fun _ h9 => h9) rfl d_Mo_writeTables_178 ?_
                        refine lv_iload_n hx hb d_Mo_writeTables_181 rfl (lv_at hl 2 rfl) ?_
                        refine z_iald hx hb hK hP 6 0 rfl rfl j rfl (by omega) (by omega) d_Mo_writeTables_182 ?_
                        refine z_topi (w := nI (ns j)) hnj.1 ?_
                        refine lv_icmp_ge (tgt := 236) hx hb d_Mo_writeTables_183 rfl (fun h183 => ?_) (fun h183 => ?_)
                        · have h183 := (nI_leI (by omega) (by omega)).mp h183
                          have hxl : X.length = 13 + 5 * k := by rw [hX, List.length_append, mtC_len, mtS_len]
                          rw [show k = ns j by omega] at hX
                          refine lv_aload_n hx hb d_Mo_writeTables_236 rfl (lv_at hl 0 rfl) ?_
                          refine lv_bipush (v := 11) hx hb d_Mo_writeTables_237 (by decide) ?_
                          have hPc := hP.sub (ws' := [(h, .inr (13, mO r 0 (nI Z.length) le lv pg pn (nI np) (nI X.length))), (r 52, .inl (cI, 4200, .inl g))]) [0, 3] rfl
                          have hKc := hK.sub (tys' := [(cI, .int)]) [0] rfl
                          have hDc := hD.sub (ws' := [(h, .inr (13, mO r 0 (nI Z.length) le lv pg pn (nI np) (nI X.length))), (r 52, .inl (cI, 4200, .inl g))]) [0, 3] (by decide) rfl
                          have hFc := va_free (wc := [(h, .inr (13, mO r 0 (nI Z.length) le lv pg pn (nI np) (nI X.length))), (r 52, .inl (cI, 4200, .inl g))]) hD hS hA [0, 3] rfl
                          refine va_callv (va_runV (As := [.int 11]) (rest := []) ⟨hx, hb, hml, hown, hts⟩ (c_Mo_sealRow l D H.size cI h r 0 (nI Z.length) le lv pg pn (nI np) X g 11 hg (by omega) (by omega)) (z_cV hN wd_1457 wd_67 wd_1454 hd_Mo_sealRow rfl rfl ⟨Nat.le_of_ble_eq_true rfl, Nat.le_of_ble_eq_true rfl⟩ wd_1456 wd_56) (z_preVm (va_recv (ci := 13) (q0 := 0) hK hP rfl rfl) hPc hKc hN hDc) rfl rfl hl.1 rfl (lv_room (Nat.le_of_ble_eq_true rfl)) d_Mo_writeTables_239 ⟨Nat.le_of_ble_eq_true rfl, Nat.le_of_ble_eq_true rfl⟩) hS (fun q _ h => hFc q h) hFc (fun g239 t H locs ht hvm e239 hB hz1 hk1 hS => ?_)
                          obtain ⟨hP1, hK1, hD1⟩ := hB
                          rw [ht] at hP1
                          obtain ⟨hP, hD⟩ := va_join (wr := [(r 1, .inl (cI, 9400, .inl tg)), (r 51, .inl (cI, 8192, .inl wh)), (r 46, .inl (cI, 4, .inl pN)), (r 47, .inl (cI, 4, .inl pP)), (r 48, .inl (cI, 4, .inl pS)), (r 49, .inl (cI, 16, .inl pT)), (r 50, .inl (cI, 16, .inl pQ))]) (w1 := [(h, .inr (13, mO r 0 (nI Z.length) le lv pg pn (nI np) (nI 184))), (r 52, .inl (cI, 4200, .inl g239))]) hP hD [0, 3] [1, 2, 4, 5, 6, 7, 8] rfl rfl (by decide) (by decide) hk1 hFc hP1 hD1
                          clear hk1 hP1 hD1 hFc hPc hDc hz1
                          have hP : va_P D classes [(r 1, .inl (cI, 9400, .inl tg)), (r 51, .inl (cI, 8192, .inl wh)), (r 46, .inl (cI, 4, .inl pN)), (r 47, .inl (cI, 4, .inl pP)), (r 48, .inl (cI, 4, .inl pS)), (r 49, .inl (cI, 16, .inl pT)), (r 50, .inl (cI, 16, .inl pQ)), (h, .inr (13, mO r 0 (nI Z.length) le lv pg pn (nI np) (nI 184))), (r 52, .inl (cI, 4200, .inl g239))] H := hP
                          have hD : va_D A [(r 1, .inl (cI, 9400, .inl tg)), (r 51, .inl (cI, 8192, .inl wh)), (r 46, .inl (cI, 4, .inl pN)), (r 47, .inl (cI, 4, .inl pP)), (r 48, .inl (cI, 4, .inl pS)), (r 49, .inl (cI, 16, .inl pT)), (r 50, .inl (cI, 16, .inl pQ)), (h, .inr (13, mO r 0 (nI Z.length) le lv pg pn (nI np) (nI 184))), (r 52, .inl (cI, 4200, .inl g239))] := hD
                          have hs4 : (sealL 11 X).length = 184 := sealL_len (by omega)
                          have hs5 : nI 184 = nI (sealL 11 X).length := by rw [hs4]
                          rw [hs5] at hP hD
                          refine lv_aload_n hx hb d_Mo_writeTables_242 rfl (lv_at hl 0 rfl) ?_
                          refine lv_aload_n hx hb d_Mo_writeTables_243 rfl (lv_at hl 0 rfl) ?_
                          refine va_get (D := D) (ci := 13) (v := .ref (r 47)) (C := R_Mo) (T := F_Mo) (N := 54) hx hb hts i_Mo hown hK hP 7 rfl rfl 47 (by decide) (hts _ wd_1135) (fun _ h9 => h9) rfl d_Mo_writeTables_244 ?_
                          refine lv_iload_n hx hb d_Mo_writeTables_247 rfl (lv_at hl 2 rfl) ?_
                          refine z_iald hx hb hK hP 3 0 rfl rfl j rfl (by omega) (by omega) d_Mo_writeTables_248 ?_
                          refine z_topi (w := nI (pp j)) hpj.1 ?_
                          have hPc := hP.sub (ws' := [(h, .inr (13, mO r 0 (nI Z.length) le lv pg pn (nI np) (nI (sealL 11 X).length))), (r 1, .inl (cI, 9400, .inl tg)), (r 51, .inl (cI, 8192, .inl wh)), (r 52, .inl (cI, 4200, .inl g239))]) [7, 0, 1, 8] rfl
                          have hKc := hK.sub (tys' := [(cI, .int)]) [0] rfl
                          have hDc := hD.sub (ws' := [(h, .inr (13, mO r 0 (nI Z.length) le lv pg pn (nI np) (nI (sealL 11 X).length))), (r 1, .inl (cI, 9400, .inl tg)), (r 51, .inl (cI, 8192, .inl wh)), (r 52, .inl (cI, 4200, .inl g239))]) [7, 0, 1, 8] (by decide) rfl
                          have hFc := va_free (wc := [(h, .inr (13, mO r 0 (nI Z.length) le lv pg pn (nI np) (nI (sealL 11 X).length))), (r 1, .inl (cI, 9400, .inl tg)), (r 51, .inl (cI, 8192, .inl wh)), (r 52, .inl (cI, 4200, .inl g239))]) hD hS hA [7, 0, 1, 8] rfl
                          refine va_callv (va_runV (As := [.int (nI (pp j))]) (rest := []) ⟨hx, hb, hml, hown, hts⟩ (c_Mo_writePackets l D H.size cI h r 0 le lv pg pn (nI np) (sealL 11 X) g239 Z tg (wg (pp j)) (pp j) wh e239 (by omega) htg (by rw [hs4]; omega) hpj.2 (hwg _ hpj.2) (by omega)) (z_cV hN wd_1461 wd_67 wd_1458 hd_Mo_writePackets rfl rfl ⟨Nat.le_of_ble_eq_true rfl, Nat.le_of_ble_eq_true rfl⟩ wd_1460 wd_57) (z_preVm (va_recv (ci := 13) (q0 := 7) hK hP rfl rfl) hPc hKc hN hDc) rfl rfl hl.1 rfl (lv_room (Nat.le_of_ble_eq_true rfl)) d_Mo_writeTables_249 ⟨Nat.le_of_ble_eq_true rfl, Nat.le_of_ble_eq_true rfl⟩) hS (fun q _ h => hFc q h) hFc (fun g249 t H locs ht hvm e249 hB hz1 hk1 hS => ?_)
                          obtain ⟨hP1, hK1, hD1⟩ := hB
                          rw [ht] at hP1
                          obtain ⟨hP, hD⟩ := va_join (wr := [(r 46, .inl (cI, 4, .inl pN)), (r 47, .inl (cI, 4, .inl pP)), (r 48, .inl (cI, 4, .inl pS)), (r 49, .inl (cI, 16, .inl pT)), (r 50, .inl (cI, 16, .inl pQ))]) (w1 := [(h, .inr (13, mO r 0 (nI (Z ++ ppL (pp j) (wg (pp j)) (sealL 11 X).length 0 (sealL 11 X)).length) le lv pg pn (nI np) (nI (sealL 11 X).length))), (r 1, .inl (cI, 9400, .inl g249)), (r 51, .inl (cI, 8192, .inl (upd wh (pp j) (nI ((wg (pp j)) + ((sealL 11 X).length + 183) / 184))))), (r 52, .inl (cI, 4200, .inl g239))]) hP hD [7, 0, 1, 8] [2, 3, 4, 5, 6] rfl rfl (by decide) (by decide) hk1 hFc hP1 hD1
                          clear hk1 hP1 hD1 hFc hPc hDc hz1
                          have hP : va_P D classes [(r 46, .inl (cI, 4, .inl pN)), (r 47, .inl (cI, 4, .inl pP)), (r 48, .inl (cI, 4, .inl pS)), (r 49, .inl (cI, 16, .inl pT)), (r 50, .inl (cI, 16, .inl pQ)), (h, .inr (13, mO r 0 (nI (Z ++ ppL (pp j) (wg (pp j)) (sealL 11 X).length 0 (sealL 11 X)).length) le lv pg pn (nI np) (nI (sealL 11 X).length))), (r 1, .inl (cI, 9400, .inl g249)), (r 51, .inl (cI, 8192, .inl (upd wh (pp j) (nI ((wg (pp j)) + ((sealL 11 X).length + 183) / 184))))), (r 52, .inl (cI, 4200, .inl g239))] H := hP
                          have hD : va_D A [(r 46, .inl (cI, 4, .inl pN)), (r 47, .inl (cI, 4, .inl pP)), (r 48, .inl (cI, 4, .inl pS)), (r 49, .inl (cI, 16, .inl pT)), (r 50, .inl (cI, 16, .inl pQ)), (h, .inr (13, mO r 0 (nI (Z ++ ppL (pp j) (wg (pp j)) (sealL 11 X).length 0 (sealL 11 X)).length) le lv pg pn (nI np) (nI (sealL 11 X).length))), (r 1, .inl (cI, 9400, .inl g249)), (r 51, .inl (cI, 8192, .inl (upd wh (pp j) (nI ((wg (pp j)) + ((sealL 11 X).length + 183) / 184))))), (r 52, .inl (cI, 4200, .inl g239))] := hD
                          refine lv_iinc (k := 2) (v := nI (j + 1)) (lv' := [(2, .int (nI (j + 1))), (0, .ref h), (1, .int ve), (3, .int (nI k))]) hx hb d_Mo_writeTables_252 hl rfl (nI_1 j) (by decide) rfl (fun ls hl => ?_)
                          refine lv_goto (tgt := 113) hx hb d_Mo_writeTables_255 rfl ?_
                          exact ih113 (j + 1) (Z ++ ppL (pp j) (wg (pp j)) (sealL 11 X).length 0 (sealL 11 X)) g249 (mtU wg (pp j) (wg (pp j) + ((sealL 11 X).length + 183) / 184)) (upd wh (pp j) (nI (wg (pp j) + ((sealL 11 X).length + 183) / 184))) (nI (sealL 11 X).length) g239 H locs ls (by omega) (by omega) (by rw [mtT, ← hTW, mtPl, ← hX]; rfl) (by rw [List.length_append, mt_188 hs4]; omega) e249 (mt_w hwg) (mt_b hwl hpj.2 (by rw [hs4])) (lv_sub hl [1, 2, 0] rfl) (hP.sub [5, 6, 7, 8, 0, 1, 2, 3, 4] rfl) (hD.sub [5, 6, 7, 8, 0, 1, 2, 3, 4] (by decide) rfl) hS
                        · have h183 := mt (nI_leI (by omega) (by omega)).mpr h183
                          have hxl : X.length = 13 + 5 * k := by rw [hX, List.length_append, mtC_len, mtS_len]
                          refine lv_aload_n hx hb d_Mo_writeTables_186 rfl (lv_at hl 0 rfl) ?_
                          refine lv_aload_n hx hb d_Mo_writeTables_187 rfl (lv_at hl 0 rfl) ?_
                          refine va_get (D := D) (ci := 13) (v := .ref (r 49)) (C := R_Mo) (T := F_Mo) (N := 54) hx hb hts i_Mo hown hK hP 0 rfl rfl 49 (by decide) (hts _ wd_1137) (fun _ h9 => h9) rfl d_Mo_writeTables_188 ?_
                          refine lv_iconst (v := 4) hx hb d_Mo_writeTables_191 (by decide) ?_
                          refine lv_iload_n hx hb d_Mo_writeTables_192 rfl (lv_at hl 2 rfl) ?_
                          refine lv_imul hx hb d_Mo_writeTables_193 ?_
                          refine z_topi (w := nI (4 * j)) (pk_mul 4 _) ?_
                          refine lv_iload_n hx hb d_Mo_writeTables_194 rfl (lv_at hl 3 rfl) ?_
                          refine lv_iadd hx hb d_Mo_writeTables_195 ?_
                          refine z_topi (w := nI (4 * j + k)) (nI_add _ _) ?_
                          refine z_iald hx hb hK hP 7 0 rfl rfl (4 * j + k) rfl (by omega) (by omega) d_Mo_writeTables_196 ?_
                          refine lv_i2l (v := (pT (4 * j + k)).toInt64) hx hb d_Mo_writeTables_197 rfl ?_
                          refine lv_iconst (v := 1) hx hb d_Mo_writeTables_198 (by decide) ?_
                          have hPc := hP.sub (ws' := [(h, .inr (13, mO r 0 (nI Z.length) le lv pg pn (nI np) (nI X.length))), (r 52, .inl (cI, 4200, .inl g))]) [0, 3] rfl
                          have hKc := hK.sub (tys' := [(cI, .int)]) [0] rfl
                          have hDc := hD.sub (ws' := [(h, .inr (13, mO r 0 (nI Z.length) le lv pg pn (nI np) (nI X.length))), (r 52, .inl (cI, 4200, .inl g))]) [0, 3] (by decide) rfl
                          have hFc := va_free (wc := [(h, .inr (13, mO r 0 (nI Z.length) le lv pg pn (nI np) (nI X.length))), (r 52, .inl (cI, 4200, .inl g))]) hD hS hA [0, 3] rfl
                          refine va_callv (va_runV (As := [.long ((pT (4 * j + k)).toInt64), .int (nI 1)]) (rest := []) ⟨hx, hb, hml, hown, hts⟩ (c_Mo_put l D H.size cI h r 0 (nI Z.length) le lv pg pn (nI np) X g ((pT (4 * j + k)).toInt64) 1 hg (by omega) (by omega) (by omega)) (z_cV hN wd_1451 wd_67 wd_1448 hd_Mo_put rfl rfl ⟨Nat.le_of_ble_eq_true rfl, Nat.le_of_ble_eq_true rfl⟩ wd_1450 wd_55) (z_preVm (va_recv (ci := 13) (q0 := 0) hK hP rfl rfl) hPc hKc hN hDc) rfl rfl hl.1 rfl (lv_room (Nat.le_of_ble_eq_true rfl)) d_Mo_writeTables_199 ⟨Nat.le_of_ble_eq_true rfl, Nat.le_of_ble_eq_true rfl⟩) hS (fun q _ h => hFc q h) hFc (fun g199 t H locs ht hvm e199 hB hz1 hk1 hS => ?_)
                          obtain ⟨hP1, hK1, hD1⟩ := hB
                          rw [ht] at hP1
                          obtain ⟨hP, hD⟩ := va_join (wr := [(r 1, .inl (cI, 9400, .inl tg)), (r 51, .inl (cI, 8192, .inl wh)), (r 46, .inl (cI, 4, .inl pN)), (r 47, .inl (cI, 4, .inl pP)), (r 48, .inl (cI, 4, .inl pS)), (r 49, .inl (cI, 16, .inl pT)), (r 50, .inl (cI, 16, .inl pQ))]) (w1 := [(h, .inr (13, mO r 0 (nI Z.length) le lv pg pn (nI np) (nI (X ++ bsL ((pT (4 * j + k)).toInt64) 1).length))), (r 52, .inl (cI, 4200, .inl g199))]) hP hD [0, 3] [1, 2, 4, 5, 6, 7, 8] rfl rfl (by decide) (by decide) hk1 hFc hP1 hD1
                          clear hk1 hP1 hD1 hFc hPc hDc hz1
                          have hP : va_P D classes [(r 1, .inl (cI, 9400, .inl tg)), (r 51, .inl (cI, 8192, .inl wh)), (r 46, .inl (cI, 4, .inl pN)), (r 47, .inl (cI, 4, .inl pP)), (r 48, .inl (cI, 4, .inl pS)), (r 49, .inl (cI, 16, .inl pT)), (r 50, .inl (cI, 16, .inl pQ)), (h, .inr (13, mO r 0 (nI Z.length) le lv pg pn (nI np) (nI (X ++ bsL ((pT (4 * j + k)).toInt64) 1).length))), (r 52, .inl (cI, 4200, .inl g199))] H := hP
                          have hD : va_D A [(r 1, .inl (cI, 9400, .inl tg)), (r 51, .inl (cI, 8192, .inl wh)), (r 46, .inl (cI, 4, .inl pN)), (r 47, .inl (cI, 4, .inl pP)), (r 48, .inl (cI, 4, .inl pS)), (r 49, .inl (cI, 16, .inl pT)), (r 50, .inl (cI, 16, .inl pQ)), (h, .inr (13, mO r 0 (nI Z.length) le lv pg pn (nI np) (nI (X ++ bsL ((pT (4 * j + k)).toInt64) 1).length))), (r 52, .inl (cI, 4200, .inl g199))] := hD
                          refine lv_aload_n hx hb d_Mo_writeTables_202 rfl (lv_at hl 0 rfl) ?_
                          refine lv_ldc2 hx hb hown (hts _ wd_1453) d_Mo_writeTables_203 ?_
                          refine lv_aload_n hx hb d_Mo_writeTables_206 rfl (lv_at hl 0 rfl) ?_
                          refine va_get (D := D) (ci := 13) (v := .ref (r 50)) (C := R_Mo) (T := F_Mo) (N := 54) hx hb hts i_Mo hown hK hP 7 rfl rfl 50 (by decide) (hts _ wd_1138) (fun _ h9 => h9) rfl d_Mo_writeTables_207 ?_
                          refine lv_iconst (v := 4) hx hb d_Mo_writeTables_210 (by decide) ?_
                          refine lv_iload_n hx hb d_Mo_writeTables_211 rfl (lv_at hl 2 rfl) ?_
                          refine lv_imul hx hb d_Mo_writeTables_212 ?_
                          refine z_topi (w := nI (4 * j)) (pk_mul 4 _) ?_
                          refine lv_iload_n hx hb d_Mo_writeTables_213 rfl (lv_at hl 3 rfl) ?_
                          refine lv_iadd hx hb d_Mo_writeTables_214 ?_
                          refine z_topi (w := nI (4 * j + k)) (nI_add _ _) ?_
                          refine z_iald hx hb hK hP 6 0 rfl rfl (4 * j + k) rfl (by omega) (by omega) d_Mo_writeTables_215 ?_
                          refine lv_i2l (v := (pQ (4 * j + k)).toInt64) hx hb d_Mo_writeTables_216 rfl ?_
                          refine lv_lor hx hb d_Mo_writeTables_217 ?_
                          refine lv_iconst (v := 2) hx hb d_Mo_writeTables_218 (by decide) ?_
                          have hPc := hP.sub (ws' := [(h, .inr (13, mO r 0 (nI Z.length) le lv pg pn (nI np) (nI (X ++ bsL ((pT (4 * j + k)).toInt64) 1).length))), (r 52, .inl (cI, 4200, .inl g199))]) [7, 8] rfl
                          have hKc := hK.sub (tys' := [(cI, .int)]) [0] rfl
                          have hDc := hD.sub (ws' := [(h, .inr (13, mO r 0 (nI Z.length) le lv pg pn (nI np) (nI (X ++ bsL ((pT (4 * j + k)).toInt64) 1).length))), (r 52, .inl (cI, 4200, .inl g199))]) [7, 8] (by decide) rfl
                          have hFc := va_free (wc := [(h, .inr (13, mO r 0 (nI Z.length) le lv pg pn (nI np) (nI (X ++ bsL ((pT (4 * j + k)).toInt64) 1).length))), (r 52, .inl (cI, 4200, .inl g199))]) hD hS hA [7, 8] rfl
                          refine va_callv (va_runV (As := [.long (57344 ||| ((pQ (4 * j + k)).toInt64)), .int (nI 2)]) (rest := []) ⟨hx, hb, hml, hown, hts⟩ (c_Mo_put l D H.size cI h r 0 (nI Z.length) le lv pg pn (nI np) (X ++ bsL ((pT (4 * j + k)).toInt64) 1) g199 (57344 ||| ((pQ (4 * j + k)).toInt64)) 2 e199 (by (try simp only [List.length_append, bs_len, mtB_len]); omega) (by omega) (by omega)) (z_cV hN wd_1451 wd_67 wd_1448 hd_Mo_put rfl rfl ⟨Nat.le_of_ble_eq_true rfl, Nat.le_of_ble_eq_true rfl⟩ wd_1450 wd_55) (z_preVm (va_recv (ci := 13) (q0 := 7) hK hP rfl rfl) hPc hKc hN hDc) rfl rfl hl.1 rfl (lv_room (Nat.le_of_ble_eq_true rfl)) d_Mo_writeTables_219 ⟨Nat.le_of_ble_eq_true rfl, Nat.le_of_ble_eq_true rfl⟩) hS (fun q _ h => hFc q h) hFc (fun g219 t H locs ht hvm e219 hB hz1 hk1 hS => ?_)
                          obtain ⟨hP1, hK1, hD1⟩ := hB
                          rw [ht] at hP1
                          obtain ⟨hP, hD⟩ := va_join (wr := [(r 1, .inl (cI, 9400, .inl tg)), (r 51, .inl (cI, 8192, .inl wh)), (r 46, .inl (cI, 4, .inl pN)), (r 47, .inl (cI, 4, .inl pP)), (r 48, .inl (cI, 4, .inl pS)), (r 49, .inl (cI, 16, .inl pT)), (r 50, .inl (cI, 16, .inl pQ))]) (w1 := [(h, .inr (13, mO r 0 (nI Z.length) le lv pg pn (nI np) (nI ((X ++ bsL ((pT (4 * j + k)).toInt64) 1) ++ bsL (57344 ||| ((pQ (4 * j + k)).toInt64)) 2).length))), (r 52, .inl (cI, 4200, .inl g219))]) hP hD [7, 8] [0, 1, 2, 3, 4, 5, 6] rfl rfl (by decide) (by decide) hk1 hFc hP1 hD1
                          clear hk1 hP1 hD1 hFc hPc hDc hz1
                          have hP : va_P D classes [(r 1, .inl (cI, 9400, .inl tg)), (r 51, .inl (cI, 8192, .inl wh)), (r 46, .inl (cI, 4, .inl pN)), (r 47, .inl (cI, 4, .inl pP)), (r 48, .inl (cI, 4, .inl pS)), (r 49, .inl (cI, 16, .inl pT)), (r 50, .inl (cI, 16, .inl pQ)), (h, .inr (13, mO r 0 (nI Z.length) le lv pg pn (nI np) (nI ((X ++ bsL ((pT (4 * j + k)).toInt64) 1) ++ bsL (57344 ||| ((pQ (4 * j + k)).toInt64)) 2).length))), (r 52, .inl (cI, 4200, .inl g219))] H := hP
                          have hD : va_D A [(r 1, .inl (cI, 9400, .inl tg)), (r 51, .inl (cI, 8192, .inl wh)), (r 46, .inl (cI, 4, .inl pN)), (r 47, .inl (cI, 4, .inl pP)), (r 48, .inl (cI, 4, .inl pS)), (r 49, .inl (cI, 16, .inl pT)), (r 50, .inl (cI, 16, .inl pQ)), (h, .inr (13, mO r 0 (nI Z.length) le lv pg pn (nI np) (nI ((X ++ bsL ((pT (4 * j + k)).toInt64) 1) ++ bsL (57344 ||| ((pQ (4 * j + k)).toInt64)) 2).length))), (r 52, .inl (cI, 4200, .inl g219))] := hD
                          refine lv_aload_n hx hb d_Mo_writeTables_222 rfl (lv_at hl 0 rfl) ?_
                          refine lv_ldc2 hx hb hown (hts _ wd_1462) d_Mo_writeTables_223 ?_
                          refine lv_iconst (v := 2) hx hb d_Mo_writeTables_226 (by decide) ?_
                          have hPc := hP.sub (ws' := [(h, .inr (13, mO r 0 (nI Z.length) le lv pg pn (nI np) (nI ((X ++ bsL ((pT (4 * j + k)).toInt64) 1) ++ bsL (57344 ||| ((pQ (4 * j + k)).toInt64)) 2).length))), (r 52, .inl (cI, 4200, .inl g219))]) [7, 8] rfl
                          have hKc := hK.sub (tys' := [(cI, .int)]) [0] rfl
                          have hDc := hD.sub (ws' := [(h, .inr (13, mO r 0 (nI Z.length) le lv pg pn (nI np) (nI ((X ++ bsL ((pT (4 * j + k)).toInt64) 1) ++ bsL (57344 ||| ((pQ (4 * j + k)).toInt64)) 2).length))), (r 52, .inl (cI, 4200, .inl g219))]) [7, 8] (by decide) rfl
                          have hFc := va_free (wc := [(h, .inr (13, mO r 0 (nI Z.length) le lv pg pn (nI np) (nI ((X ++ bsL ((pT (4 * j + k)).toInt64) 1) ++ bsL (57344 ||| ((pQ (4 * j + k)).toInt64)) 2).length))), (r 52, .inl (cI, 4200, .inl g219))]) hD hS hA [7, 8] rfl
                          refine va_callv (va_runV (As := [.long 61440, .int (nI 2)]) (rest := []) ⟨hx, hb, hml, hown, hts⟩ (c_Mo_put l D H.size cI h r 0 (nI Z.length) le lv pg pn (nI np) ((X ++ bsL ((pT (4 * j + k)).toInt64) 1) ++ bsL (57344 ||| ((pQ (4 * j + k)).toInt64)) 2) g219 61440 2 e219 (by (try simp only [List.length_append, bs_len, mtB_len]); omega) (by omega) (by omega)) (z_cV hN wd_1451 wd_67 wd_1448 hd_Mo_put rfl rfl ⟨Nat.le_of_ble_eq_true rfl, Nat.le_of_ble_eq_true rfl⟩ wd_1450 wd_55) (z_preVm (va_recv (ci := 13) (q0 := 7) hK hP rfl rfl) hPc hKc hN hDc) rfl rfl hl.1 rfl (lv_room (Nat.le_of_ble_eq_true rfl)) d_Mo_writeTables_227 ⟨Nat.le_of_ble_eq_true rfl, Nat.le_of_ble_eq_true rfl⟩) hS (fun q _ h => hFc q h) hFc (fun g227 t H locs ht hvm e227 hB hz1 hk1 hS => ?_)
                          obtain ⟨hP1, hK1, hD1⟩ := hB
                          rw [ht] at hP1
                          obtain ⟨hP, hD⟩ := va_join (wr := [(r 1, .inl (cI, 9400, .inl tg)), (r 51, .inl (cI, 8192, .inl wh)), (r 46, .inl (cI, 4, .inl pN)), (r 47, .inl (cI, 4, .inl pP)), (r 48, .inl (cI, 4, .inl pS)), (r 49, .inl (cI, 16, .inl pT)), (r 50, .inl (cI, 16, .inl pQ))]) (w1 := [(h, .inr (13, mO r 0 (nI Z.length) le lv pg pn (nI np) (nI (((X ++ bsL ((pT (4 * j + k)).toInt64) 1) ++ bsL (57344 ||| ((pQ (4 * j + k)).toInt64)) 2) ++ bsL 61440 2).length))), (r 52, .inl (cI, 4200, .inl g227))]) hP hD [7, 8] [0, 1, 2, 3, 4, 5, 6] rfl rfl (by decide) (by decide) hk1 hFc hP1 hD1
                          clear hk1 hP1 hD1 hFc hPc hDc hz1
                          have hP : va_P D classes [(r 1, .inl (cI, 9400, .inl tg)), (r 51, .inl (cI, 8192, .inl wh)), (r 46, .inl (cI, 4, .inl pN)), (r 47, .inl (cI, 4, .inl pP)), (r 48, .inl (cI, 4, .inl pS)), (r 49, .inl (cI, 16, .inl pT)), (r 50, .inl (cI, 16, .inl pQ)), (h, .inr (13, mO r 0 (nI Z.length) le lv pg pn (nI np) (nI (((X ++ bsL ((pT (4 * j + k)).toInt64) 1) ++ bsL (57344 ||| ((pQ (4 * j + k)).toInt64)) 2) ++ bsL 61440 2).length))), (r 52, .inl (cI, 4200, .inl g227))] H := hP
                          have hD : va_D A [(r 1, .inl (cI, 9400, .inl tg)), (r 51, .inl (cI, 8192, .inl wh)), (r 46, .inl (cI, 4, .inl pN)), (r 47, .inl (cI, 4, .inl pP)), (r 48, .inl (cI, 4, .inl pS)), (r 49, .inl (cI, 16, .inl pT)), (r 50, .inl (cI, 16, .inl pQ)), (h, .inr (13, mO r 0 (nI Z.length) le lv pg pn (nI np) (nI (((X ++ bsL ((pT (4 * j + k)).toInt64) 1) ++ bsL (57344 ||| ((pQ (4 * j + k)).toInt64)) 2) ++ bsL 61440 2).length))), (r 52, .inl (cI, 4200, .inl g227))] := hD
                          refine lv_iinc (k := 3) (v := nI (k + 1)) (lv' := [(3, .int (nI (k + 1))), (0, .ref h), (1, .int ve), (2, .int (nI j))]) hx hb d_Mo_writeTables_230 hl rfl (nI_1 k) (by decide) rfl (fun ls hl => ?_)
                          refine lv_goto (tgt := 176) hx hb d_Mo_writeTables_233 rfl ?_
                          exact ih176 (k + 1) (((X ++ bsL (pT (4 * j + k)).toInt64 1) ++ bsL (57344 ||| (pQ (4 * j + k)).toInt64) 2) ++ bsL 61440 2) g227 H locs ls (by omega) (by omega) (by rw [hX]; simp only [mtS, List.append_assoc]) e227 (lv_sub hl [1, 2, 3, 0] rfl) (hP.sub [7, 0, 1, 8, 2, 3, 4, 5, 6] rfl) (hD.sub [7, 0, 1, 8, 2, 3, 4, 5, 6] (by decide) rfl) hS
                    exact loop176 _ 0 (mtC pN pQ ns ve j) g171 H locs ls (Nat.lt_succ_self _) (Nat.zero_le _) ((List.append_nil _).symm) e171 (lv_sub hl [1, 2, 3, 0] rfl) (hP.sub [7, 0, 1, 8, 2, 3, 4, 5, 6] rfl) (hD.sub [7, 0, 1, 8, 2, 3, 4, 5, 6] (by decide) rfl) hS
              exact loop113 _ 0 (T ++ ppL 0 (wf 0) (sealL 11 X).length 0 (sealL 11 X)) g108 (mtU wf 0 (wf 0 + ((sealL 11 X).length + 183) / 184)) (upd wr 0 (nI (wf 0 + ((sealL 11 X).length + 183) / 184))) (nI (sealL 11 X).length) g103 H locs ls (Nat.lt_succ_self _) (Nat.zero_le _) (by rw [hX]; rfl) (by rw [List.length_append, mt_188 hs4]) e108 (mt_w hwf) (mt_b (j := 0) (fun x _ => Nat.le_refl _) (by omega) (by rw [hs4])) (lv_sub hl [1, 2, 0] rfl) (hP.sub [5, 6, 7, 8, 0, 1, 2, 3, 4] rfl) (hD.sub [5, 6, 7, 8, 0, 1, 2, 3, 4] (by decide) rfl) hS
            · have h63 := mt (nI_leI (by omega) (by omega)).mpr h63
              have hxl : X.length = 9 + 4 * j0 := by rw [hX, List.length_append, mtB_len, mtP_len]
              refine lv_aload_n hx hb d_Mo_writeTables_66 rfl (lv_at hl 0 rfl) ?_
              refine lv_aload_n hx hb d_Mo_writeTables_67 rfl (lv_at hl 0 rfl) ?_
              refine va_get (D := D) (ci := 13) (v := .ref (r 46)) (C := R_Mo) (T := F_Mo) (N := 54) hx hb hts i_Mo hown hK hP 0 rfl rfl 46 (by decide) (hts _ wd_1134) (fun _ h9 => h9) rfl d_Mo_writeTables_68 ?_
              refine lv_iload_n hx hb d_Mo_writeTables_71 rfl (lv_at hl 2 rfl) ?_
              refine z_iald hx hb hK hP 4 0 rfl rfl j0 rfl (by omega) (by omega) d_Mo_writeTables_72 ?_
              refine lv_i2l (v := (pN j0).toInt64) hx hb d_Mo_writeTables_73 rfl ?_
              refine lv_iconst (v := 2) hx hb d_Mo_writeTables_74 (by decide) ?_
              have hPc := hP.sub (ws' := [(h, .inr (13, mO r 0 (nI T.length) le lv pg pn (nI np) (nI X.length))), (r 52, .inl (cI, 4200, .inl g))]) [0, 3] rfl
              have hKc := hK.sub (tys' := [(cI, .int)]) [0] rfl
              have hDc := hD.sub (ws' := [(h, .inr (13, mO r 0 (nI T.length) le lv pg pn (nI np) (nI X.length))), (r 52, .inl (cI, 4200, .inl g))]) [0, 3] (by decide) rfl
              have hFc := va_free (wc := [(h, .inr (13, mO r 0 (nI T.length) le lv pg pn (nI np) (nI X.length))), (r 52, .inl (cI, 4200, .inl g))]) hD hS hA [0, 3] rfl
              refine va_callv (va_runV (As := [.long ((pN j0).toInt64), .int (nI 2)]) (rest := []) ⟨hx, hb, hml, hown, hts⟩ (c_Mo_put l D H.size cI h r 0 (nI T.length) le lv pg pn (nI np) X g ((pN j0).toInt64) 2 hg (by omega) (by omega) (by omega)) (z_cV hN wd_1451 wd_67 wd_1448 hd_Mo_put rfl rfl ⟨Nat.le_of_ble_eq_true rfl, Nat.le_of_ble_eq_true rfl⟩ wd_1450 wd_55) (z_preVm (va_recv (ci := 13) (q0 := 0) hK hP rfl rfl) hPc hKc hN hDc) rfl rfl hl.1 rfl (lv_room (Nat.le_of_ble_eq_true rfl)) d_Mo_writeTables_75 ⟨Nat.le_of_ble_eq_true rfl, Nat.le_of_ble_eq_true rfl⟩) hS (fun q _ h => hFc q h) hFc (fun g75 t H locs ht hvm e75 hB hz1 hk1 hS => ?_)
              obtain ⟨hP1, hK1, hD1⟩ := hB
              rw [ht] at hP1
              obtain ⟨hP, hD⟩ := va_join (wr := [(r 1, .inl (cI, 9400, .inl tp)), (r 51, .inl (cI, 8192, .inl wr)), (r 46, .inl (cI, 4, .inl pN)), (r 47, .inl (cI, 4, .inl pP)), (r 48, .inl (cI, 4, .inl pS)), (r 49, .inl (cI, 16, .inl pT)), (r 50, .inl (cI, 16, .inl pQ))]) (w1 := [(h, .inr (13, mO r 0 (nI T.length) le lv pg pn (nI np) (nI (X ++ bsL ((pN j0).toInt64) 2).length))), (r 52, .inl (cI, 4200, .inl g75))]) hP hD [0, 3] [1, 2, 4, 5, 6, 7, 8] rfl rfl (by decide) (by decide) hk1 hFc hP1 hD1
              clear hk1 hP1 hD1 hFc hPc hDc hz1
              have hP : va_P D classes [(r 1, .inl (cI, 9400, .inl tp)), (r 51, .inl (cI, 8192, .inl wr)), (r 46, .inl (cI, 4, .inl pN)), (r 47, .inl (cI, 4, .inl pP)), (r 48, .inl (cI, 4, .inl pS)), (r 49, .inl (cI, 16, .inl pT)), (r 50, .inl (cI, 16, .inl pQ)), (h, .inr (13, mO r 0 (nI T.length) le lv pg pn (nI np) (nI (X ++ bsL ((pN j0).toInt64) 2).length))), (r 52, .inl (cI, 4200, .inl g75))] H := hP
              have hD : va_D A [(r 1, .inl (cI, 9400, .inl tp)), (r 51, .inl (cI, 8192, .inl wr)), (r 46, .inl (cI, 4, .inl pN)), (r 47, .inl (cI, 4, .inl pP)), (r 48, .inl (cI, 4, .inl pS)), (r 49, .inl (cI, 16, .inl pT)), (r 50, .inl (cI, 16, .inl pQ)), (h, .inr (13, mO r 0 (nI T.length) le lv pg pn (nI np) (nI (X ++ bsL ((pN j0).toInt64) 2).length))), (r 52, .inl (cI, 4200, .inl g75))] := hD
              refine lv_aload_n hx hb d_Mo_writeTables_78 rfl (lv_at hl 0 rfl) ?_
              refine lv_ldc2 hx hb hown (hts _ wd_1453) d_Mo_writeTables_79 ?_
              refine lv_aload_n hx hb d_Mo_writeTables_82 rfl (lv_at hl 0 rfl) ?_
              refine va_get (D := D) (ci := 13) (v := .ref (r 47)) (C := R_Mo) (T := F_Mo) (N := 54) hx hb hts i_Mo hown hK hP 7 rfl rfl 47 (by decide) (hts _ wd_1135) (fun _ h9 => h9) rfl d_Mo_writeTables_83 ?_
              refine lv_iload_n hx hb d_Mo_writeTables_86 rfl (lv_at hl 2 rfl) ?_
              refine z_iald hx hb hK hP 3 0 rfl rfl j0 rfl (by omega) (by omega) d_Mo_writeTables_87 ?_
              refine lv_i2l (v := (pP j0).toInt64) hx hb d_Mo_writeTables_88 rfl ?_
              refine lv_lor hx hb d_Mo_writeTables_89 ?_
              refine lv_iconst (v := 2) hx hb d_Mo_writeTables_90 (by decide) ?_
              have hPc := hP.sub (ws' := [(h, .inr (13, mO r 0 (nI T.length) le lv pg pn (nI np) (nI (X ++ bsL ((pN j0).toInt64) 2).length))), (r 52, .inl (cI, 4200, .inl g75))]) [7, 8] rfl
              have hKc := hK.sub (tys' := [(cI, .int)]) [0] rfl
              have hDc := hD.sub (ws' := [(h, .inr (13, mO r 0 (nI T.length) le lv pg pn (nI np) (nI (X ++ bsL ((pN j0).toInt64) 2).length))), (r 52, .inl (cI, 4200, .inl g75))]) [7, 8] (by decide) rfl
              have hFc := va_free (wc := [(h, .inr (13, mO r 0 (nI T.length) le lv pg pn (nI np) (nI (X ++ bsL ((pN j0).toInt64) 2).length))), (r 52, .inl (cI, 4200, .inl g75))]) hD hS hA [7, 8] rfl
              refine va_callv (va_runV (As := [.long (57344 ||| ((pP j0).toInt64)), .int (nI 2)]) (rest := []) ⟨hx, hb, hml, hown, hts⟩ (c_Mo_put l D H.size cI h r 0 (nI T.length) le lv pg pn (nI np) (X ++ bsL ((pN j0).toInt64) 2) g75 (57344 ||| ((pP j0).toInt64)) 2 e75 (by (try simp only [List.length_append, bs_len, List.length_nil]); omega) (by omega) (by omega)) (z_cV hN wd_1451 wd_67 wd_1448 hd_Mo_put rfl rfl ⟨Nat.le_of_ble_eq_true rfl, Nat.le_of_ble_eq_true rfl⟩ wd_1450 wd_55) (z_preVm (va_recv (ci := 13) (q0 := 7) hK hP rfl rfl) hPc hKc hN hDc) rfl rfl hl.1 rfl (lv_room (Nat.le_of_ble_eq_true rfl)) d_Mo_writeTables_91 ⟨Nat.le_of_ble_eq_true rfl, Nat.le_of_ble_eq_true rfl⟩) hS (fun q _ h => hFc q h) hFc (fun g91 t H locs ht hvm e91 hB hz1 hk1 hS => ?_)
              obtain ⟨hP1, hK1, hD1⟩ := hB
              rw [ht] at hP1
              obtain ⟨hP, hD⟩ := va_join (wr := [(r 1, .inl (cI, 9400, .inl tp)), (r 51, .inl (cI, 8192, .inl wr)), (r 46, .inl (cI, 4, .inl pN)), (r 47, .inl (cI, 4, .inl pP)), (r 48, .inl (cI, 4, .inl pS)), (r 49, .inl (cI, 16, .inl pT)), (r 50, .inl (cI, 16, .inl pQ))]) (w1 := [(h, .inr (13, mO r 0 (nI T.length) le lv pg pn (nI np) (nI ((X ++ bsL ((pN j0).toInt64) 2) ++ bsL (57344 ||| ((pP j0).toInt64)) 2).length))), (r 52, .inl (cI, 4200, .inl g91))]) hP hD [7, 8] [0, 1, 2, 3, 4, 5, 6] rfl rfl (by decide) (by decide) hk1 hFc hP1 hD1
              clear hk1 hP1 hD1 hFc hPc hDc hz1
              have hP : va_P D classes [(r 1, .inl (cI, 9400, .inl tp)), (r 51, .inl (cI, 8192, .inl wr)), (r 46, .inl (cI, 4, .inl pN)), (r 47, .inl (cI, 4, .inl pP)), (r 48, .inl (cI, 4, .inl pS)), (r 49, .inl (cI, 16, .inl pT)), (r 50, .inl (cI, 16, .inl pQ)), (h, .inr (13, mO r 0 (nI T.length) le lv pg pn (nI np) (nI ((X ++ bsL ((pN j0).toInt64) 2) ++ bsL (57344 ||| ((pP j0).toInt64)) 2).length))), (r 52, .inl (cI, 4200, .inl g91))] H := hP
              have hD : va_D A [(r 1, .inl (cI, 9400, .inl tp)), (r 51, .inl (cI, 8192, .inl wr)), (r 46, .inl (cI, 4, .inl pN)), (r 47, .inl (cI, 4, .inl pP)), (r 48, .inl (cI, 4, .inl pS)), (r 49, .inl (cI, 16, .inl pT)), (r 50, .inl (cI, 16, .inl pQ)), (h, .inr (13, mO r 0 (nI T.length) le lv pg pn (nI np) (nI ((X ++ bsL ((pN j0).toInt64) 2) ++ bsL (57344 ||| ((pP j0).toInt64)) 2).length))), (r 52, .inl (cI, 4200, .inl g91))] := hD
              refine lv_iinc (k := 2) (v := nI (j0 + 1)) (lv' := [(2, .int (nI (j0 + 1))), (0, .ref h), (1, .int ve)]) hx hb d_Mo_writeTables_94 hl rfl (nI_1 j0) (by decide) rfl (fun ls hl => ?_)
              refine lv_goto (tgt := 58) hx hb d_Mo_writeTables_97 rfl ?_
              exact ih58 (j0 + 1) ((X ++ bsL (pN j0).toInt64 2) ++ bsL (57344 ||| (pP j0).toInt64) 2) g91 H locs ls (by omega) (by omega) (by rw [hX]; simp only [mtP, List.append_assoc]) e91 (lv_sub hl [1, 2, 0] rfl) (hP.sub [7, 0, 1, 8, 2, 3, 4, 5, 6] rfl) (hD.sub [7, 0, 1, 8, 2, 3, 4, 5, 6] (by decide) rfl) hS
        exact loop58 _ 0 (mtB 0 65535 ve) g53 H locs ls (Nat.lt_succ_self _) (Nat.zero_le _) ((List.append_nil _).symm) e53 (lv_sub hl [1, 2, 0] rfl) (hP.sub [7, 0, 1, 8, 2, 3, 4, 5, 6] rfl) (hD.sub [7, 0, 1, 8, 2, 3, 4, 5, 6] (by decide) rfl) hS
      · have h42 : ¬ T.length + 188 * (1 + np) ≤ 9400 := by have := mp_full h42; omega
        refine lv_iconst (v := (-1)) hx hb d_Mo_writeTables_45 (by decide) ?_
        have hP9 := hP.sub (ws' := [(h, .inr (13, mO r 0 (nI T.length) le lv pg pn (nI np) rs)), (r 1, .inl (cI, 9400, .inl tp)), (r 51, .inl (cI, 8192, .inl wr)), (r 52, .inl (cI, 4200, .inl ro)), (r 46, .inl (cI, 4, .inl pN)), (r 47, .inl (cI, 4, .inl pP)), (r 48, .inl (cI, 4, .inl pS)), (r 49, .inl (cI, 16, .inl pT)), (r 50, .inl (cI, 16, .inl pQ))]) [0, 1, 2, 3, 4, 5, 6, 7, 8] rfl
        have hD9 := hD.sub (ws' := [(h, .inr (13, mO r 0 (nI T.length) le lv pg pn (nI np) rs)), (r 1, .inl (cI, 9400, .inl tp)), (r 51, .inl (cI, 8192, .inl wr)), (r 52, .inl (cI, 4200, .inl ro)), (r 46, .inl (cI, 4, .inl pN)), (r 47, .inl (cI, 4, .inl pP)), (r 48, .inl (cI, 4, .inl pS)), (r 49, .inl (cI, 16, .inl pT)), (r 50, .inl (cI, 16, .inl pQ))]) [0, 1, 2, 3, 4, 5, 6, 7, 8] (by decide) rfl
        have hK9 := hK.sub (tys' := [(cI, .int)]) [0] rfl
        exact W.iret (v := (-1)) hx hb hr (fun t ht hW => ⟨⟨_, (0, nI T.length, rs, tp, wr, ro), rfl, Or.inr ⟨hbad, Or.inl ⟨h42, rfl, rfl⟩⟩, ⟨by rw [ht]; exact hP9, va_K.moved hW.alike hK9, hD9⟩⟩, hS.F ht⟩) hS.2.2 d_Mo_writeTables_46
    · refine lv_iconst (v := 1) hx hb d_Mo_writeTables_11 (by decide) ?_
      refine lv_goto (tgt := 16) hx hb d_Mo_writeTables_12 rfl ?_
      refine va_put (D := D) (ci := 13) (v := .int 1) (ty := .int) (C := R_Mo) (T := F_Mo) (N := 54) hx hb hts i_Mo t_Mo t_Mo_ok n_Mo hown hK hP hD hS 0 rfl rfl 0 (by decide) (hts _ wd_1088) (fun _ h9 => h9) rfl (by decide +kernel) rfl rfl (Nat.le_of_ble_eq_true rfl) d_Mo_writeTables_16 (fun H locs hP hD hS => ?_)
      have hP : va_P D classes [(h, .inr (13, mO r 1 (nI T.length) le lv pg pn (nI np) rs)), (r 1, .inl (cI, 9400, .inl tp)), (r 51, .inl (cI, 8192, .inl wr)), (r 52, .inl (cI, 4200, .inl ro)), (r 46, .inl (cI, 4, .inl pN)), (r 47, .inl (cI, 4, .inl pP)), (r 48, .inl (cI, 4, .inl pS)), (r 49, .inl (cI, 16, .inl pT)), (r 50, .inl (cI, 16, .inl pQ))] H := hP
      have hD : va_D A [(h, .inr (13, mO r 1 (nI T.length) le lv pg pn (nI np) rs)), (r 1, .inl (cI, 9400, .inl tp)), (r 51, .inl (cI, 8192, .inl wr)), (r 52, .inl (cI, 4200, .inl ro)), (r 46, .inl (cI, 4, .inl pN)), (r 47, .inl (cI, 4, .inl pP)), (r 48, .inl (cI, 4, .inl pS)), (r 49, .inl (cI, 16, .inl pT)), (r 50, .inl (cI, 16, .inl pQ))] := hD
      refine lv_aload_n hx hb d_Mo_writeTables_19 rfl (lv_at hl 0 rfl) ?_
      refine va_get (D := D) (ci := 13) (v := .int 1) (C := R_Mo) (T := F_Mo) (N := 54) hx hb hts i_Mo hown hK hP 0 rfl rfl 0 (by decide) (hts _ wd_1088) (fun _ h9 => h9) rfl d_Mo_writeTables_20 ?_
      refine lv_if_le (tgt := 28) hx hb d_Mo_writeTables_23 rfl (fun h9 => absurd h9 (by decide)) (fun h23 => ?_)
      refine lv_iconst (v := 0) hx hb d_Mo_writeTables_26 (by decide) ?_
      have hP9 := hP.sub (ws' := [(h, .inr (13, mO r 1 (nI T.length) le lv pg pn (nI np) rs)), (r 1, .inl (cI, 9400, .inl tp)), (r 51, .inl (cI, 8192, .inl wr)), (r 52, .inl (cI, 4200, .inl ro)), (r 46, .inl (cI, 4, .inl pN)), (r 47, .inl (cI, 4, .inl pP)), (r 48, .inl (cI, 4, .inl pS)), (r 49, .inl (cI, 16, .inl pT)), (r 50, .inl (cI, 16, .inl pQ))]) [0, 1, 2, 3, 4, 5, 6, 7, 8] rfl
      have hD9 := hD.sub (ws' := [(h, .inr (13, mO r 1 (nI T.length) le lv pg pn (nI np) rs)), (r 1, .inl (cI, 9400, .inl tp)), (r 51, .inl (cI, 8192, .inl wr)), (r 52, .inl (cI, 4200, .inl ro)), (r 46, .inl (cI, 4, .inl pN)), (r 47, .inl (cI, 4, .inl pP)), (r 48, .inl (cI, 4, .inl pS)), (r 49, .inl (cI, 16, .inl pT)), (r 50, .inl (cI, 16, .inl pQ))]) [0, 1, 2, 3, 4, 5, 6, 7, 8] (by decide) rfl
      have hK9 := hK.sub (tys' := [(cI, .int)]) [0] rfl
      exact W.iret (v := 0) hx hb hr (fun t ht hW => ⟨⟨_, (1, nI T.length, rs, tp, wr, ro), rfl, Or.inl ⟨by first | exact Or.inl h2 | exact Or.inr (Int32.not_le.mp h8), rfl, rfl⟩, ⟨by rw [ht]; exact hP9, va_K.moved hW.alike hK9, hD9⟩⟩, hS.F ht⟩) hS.2.2 d_Mo_writeTables_27
