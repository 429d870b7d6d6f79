theorem wd_46 : (Jvm.Cond.selects "StreamSplitterModel" ({ cls := "StreamSplitterModel", name := "await0", desc := "(IJIZJ)V" } : Jvm.MethodName) ({ cls := "StreamSplitterModel", name := "await0", desc := "(IJIZJ)V" } : Jvm.MethodName)) ∈ lw_ok := List.mem_filter.mpr ⟨List.mem_of_getElem? (i := 46) (by decide +kernel), rfl⟩
theorem wd_1294 : (Jvm.Cond.methodLink "StreamSplitterModel" (189 : Nat) ({ cls := "StreamSplitterModel", name := "bitsOf", desc := "([III)J" } : Jvm.MethodName)) ∈ lw_ok := List.mem_filter.mpr ⟨List.mem_of_getElem? (i := 1294) (by decide +kernel), rfl⟩
theorem wd_1295 : (Jvm.Cond.static ({ cls := "StreamSplitterModel", name := "bitsOf", desc := "([III)J" } : Jvm.MethodName)) ∈ lw_ok := List.mem_filter.mpr ⟨List.mem_of_getElem? (i := 1295) (by decide +kernel), rfl⟩
set_option maxRecDepth 100000 in
theorem wd_1296 : (Jvm.Cond.code ({ cls := "StreamSplitterModel", name := "bitsOf", desc := "([III)J" } : Jvm.MethodName) prog_14_method_16_code (6 : Nat) (Option.some Jvm.ClassFile.FieldType.long)) ∈ lw_ok := List.mem_filter.mpr ⟨List.mem_of_getElem? (i := 1296) (by rfl), rfl⟩
theorem wd_1365 : (Jvm.Cond.methodLink "StreamSplitterModel" (243 : Nat) ({ cls := "StreamSplitterModel", name := "await0", desc := "(IJIZJ)V" } : Jvm.MethodName)) ∈ lw_ok := List.mem_filter.mpr ⟨List.mem_of_getElem? (i := 1365) (by decide +kernel), rfl⟩
theorem wd_1367 : (Jvm.Cond.instanceMethod ({ cls := "StreamSplitterModel", name := "await0", desc := "(IJIZJ)V" } : Jvm.MethodName)) ∈ lw_ok := List.mem_filter.mpr ⟨List.mem_of_getElem? (i := 1367) (by decide +kernel), rfl⟩
set_option maxRecDepth 100000 in
theorem wd_1368 : (Jvm.Cond.code ({ cls := "StreamSplitterModel", name := "await0", desc := "(IJIZJ)V" } : Jvm.MethodName) prog_14_method_29_code (9 : Nat) (Option.none : Option Jvm.ClassFile.FieldType)) ∈ lw_ok := List.mem_filter.mpr ⟨List.mem_of_getElem? (i := 1368) (by rfl), rfl⟩
theorem hd_Mo_await0 : y_Mo_await0.cls ≠ "java/lang/invoke/MethodHandle" ∧ y_Mo_await0.cls ≠ "java/lang/invoke/VarHandle" ∧ (parseMethodDescriptor y_Mo_await0.desc).map (fun d => d.parameters.length) = some 5 := by decide +kernel
theorem hd_Mo_bitsOf : y_Mo_bitsOf.cls ≠ "java/lang/invoke/MethodHandle" ∧ y_Mo_bitsOf.cls ≠ "java/lang/invoke/VarHandle" ∧ (parseMethodDescriptor y_Mo_bitsOf.desc).map (fun d => d.parameters.length) = some 3 := by decide +kernel
theorem d_Mo_orderSection_0 : decode b_Mo_orderSection 0 = .ok (.aload_n 0, 1) := by decide +kernel
theorem d_Mo_orderSection_1 : decode b_Mo_orderSection 1 = .ok (.iload_n 1, 1) := by decide +kernel
theorem d_Mo_orderSection_2 : decode b_Mo_orderSection 2 = .ok (.invokevirtual 184, 3) := by decide +kernel
theorem d_Mo_orderSection_5 : decode b_Mo_orderSection 5 = .ok (.iconst 4, 1) := by decide +kernel
theorem d_Mo_orderSection_6 : decode b_Mo_orderSection 6 = .ok (.idiv, 1) := by decide +kernel
theorem d_Mo_orderSection_7 : decode b_Mo_orderSection 7 = .ok (.istore_n 2, 1) := by decide +kernel
theorem d_Mo_orderSection_8 : decode b_Mo_orderSection 8 = .ok (.aload_n 0, 1) := by decide +kernel
theorem d_Mo_orderSection_9 : decode b_Mo_orderSection 9 = .ok (.getfield 51, 3) := by decide +kernel
theorem d_Mo_orderSection_12 : decode b_Mo_orderSection 12 = .ok (.iconst 0, 1) := by decide +kernel
theorem d_Mo_orderSection_13 : decode b_Mo_orderSection 13 = .ok (.iaload, 1) := by decide +kernel
theorem d_Mo_orderSection_14 : decode b_Mo_orderSection 14 = .ok (.sipush 252, 3) := by decide +kernel
theorem d_Mo_orderSection_17 : decode b_Mo_orderSection 17 = .ok (.if_icmp .ne 43, 3) := by decide +kernel
theorem d_Mo_orderSection_20 : decode b_Mo_orderSection 20 = .ok (.aload_n 0, 1) := by decide +kernel
theorem d_Mo_orderSection_21 : decode b_Mo_orderSection 21 = .ok (.getfield 205, 3) := by decide +kernel
theorem d_Mo_orderSection_24 : decode b_Mo_orderSection 24 = .ok (.bipush 19, 2) := by decide +kernel
theorem d_Mo_orderSection_26 : decode b_Mo_orderSection 26 = .ok (.if_icmp .lt 34, 3) := by decide +kernel
theorem d_Mo_orderSection_29 : decode b_Mo_orderSection 29 = .ok (.aload_n 0, 1) := by decide +kernel
theorem d_Mo_orderSection_30 : decode b_Mo_orderSection 30 = .ok (.getfield 51, 3) := by decide +kernel
theorem d_Mo_orderSection_33 : decode b_Mo_orderSection 33 = .ok (.iconst 3, 1) := by decide +kernel
theorem d_Mo_orderSection_34 : decode b_Mo_orderSection 34 = .ok (.iaload, 1) := by decide +kernel
theorem d_Mo_orderSection_35 : decode b_Mo_orderSection 35 = .ok (.ifCond .ne 25, 3) := by decide +kernel
theorem d_Mo_orderSection_38 : decode b_Mo_orderSection 38 = .ok (.aload_n 0, 1) := by decide +kernel
theorem d_Mo_orderSection_39 : decode b_Mo_orderSection 39 = .ok (.getfield 51, 3) := by decide +kernel
theorem d_Mo_orderSection_42 : decode b_Mo_orderSection 42 = .ok (.iconst 4, 1) := by decide +kernel
theorem d_Mo_orderSection_43 : decode b_Mo_orderSection 43 = .ok (.iaload, 1) := by decide +kernel
theorem d_Mo_orderSection_44 : decode b_Mo_orderSection 44 = .ok (.bipush 127, 2) := by decide +kernel
theorem d_Mo_orderSection_46 : decode b_Mo_orderSection 46 = .ok (.if_icmp .gt 14, 3) := by decide +kernel
theorem d_Mo_orderSection_49 : decode b_Mo_orderSection 49 = .ok (.aload_n 0, 1) := by decide +kernel
theorem d_Mo_orderSection_50 : decode b_Mo_orderSection 50 = .ok (.getfield 51, 3) := by decide +kernel
theorem d_Mo_orderSection_53 : decode b_Mo_orderSection 53 = .ok (.bipush 13, 2) := by decide +kernel
theorem d_Mo_orderSection_55 : decode b_Mo_orderSection 55 = .ok (.iaload, 1) := by decide +kernel
theorem d_Mo_orderSection_56 : decode b_Mo_orderSection 56 = .ok (.iconst 5, 1) := by decide +kernel
theorem d_Mo_orderSection_57 : decode b_Mo_orderSection 57 = .ok (.if_icmp .eq 4, 3) := by decide +kernel
theorem d_Mo_orderSection_60 : decode b_Mo_orderSection 60 = .ok (.return_, 1) := by decide +kernel
theorem d_Mo_orderSection_61 : decode b_Mo_orderSection 61 = .ok (.aload_n 0, 1) := by decide +kernel
theorem d_Mo_orderSection_62 : decode b_Mo_orderSection 62 = .ok (.getfield 51, 3) := by decide +kernel
theorem d_Mo_orderSection_65 : decode b_Mo_orderSection 65 = .ok (.bipush 39, 2) := by decide +kernel
theorem d_Mo_orderSection_67 : decode b_Mo_orderSection 67 = .ok (.bipush 33, 2) := by decide +kernel
theorem d_Mo_orderSection_69 : decode b_Mo_orderSection 69 = .ok (.invokestatic 189, 3) := by decide +kernel
theorem d_Mo_orderSection_72 : decode b_Mo_orderSection 72 = .ok (.lstore_n 3, 1) := by decide +kernel
theorem d_Mo_orderSection_73 : decode b_Mo_orderSection 73 = .ok (.aload_n 0, 1) := by decide +kernel
theorem d_Mo_orderSection_74 : decode b_Mo_orderSection 74 = .ok (.getfield 51, 3) := by decide +kernel
theorem d_Mo_orderSection_77 : decode b_Mo_orderSection 77 = .ok (.bipush 112, 2) := by decide +kernel
theorem d_Mo_orderSection_79 : decode b_Mo_orderSection 79 = .ok (.bipush 32, 2) := by decide +kernel
theorem d_Mo_orderSection_81 : decode b_Mo_orderSection 81 = .ok (.invokestatic 189, 3) := by decide +kernel
theorem d_Mo_orderSection_84 : decode b_Mo_orderSection 84 = .ok (.l2i, 1) := by decide +kernel
theorem d_Mo_orderSection_85 : decode b_Mo_orderSection 85 = .ok (.istore 5, 2) := by decide +kernel
theorem d_Mo_orderSection_87 : decode b_Mo_orderSection 87 = .ok (.aload_n 0, 1) := by decide +kernel
theorem d_Mo_orderSection_88 : decode b_Mo_orderSection 88 = .ok (.getfield 51, 3) := by decide +kernel
theorem d_Mo_orderSection_91 : decode b_Mo_orderSection 91 = .ok (.bipush 18, 2) := by decide +kernel
theorem d_Mo_orderSection_93 : decode b_Mo_orderSection 93 = .ok (.iaload, 1) := by decide +kernel
theorem d_Mo_orderSection_94 : decode b_Mo_orderSection 94 = .ok (.bipush 127, 2) := by decide +kernel
theorem d_Mo_orderSection_96 : decode b_Mo_orderSection 96 = .ok (.if_icmp .le 64, 3) := by decide +kernel
theorem d_Mo_orderSection_99 : decode b_Mo_orderSection 99 = .ok (.iconst 0, 1) := by decide +kernel
theorem d_Mo_orderSection_100 : decode b_Mo_orderSection 100 = .ok (.istore 6, 2) := by decide +kernel
theorem d_Mo_orderSection_102 : decode b_Mo_orderSection 102 = .ok (.iconst 0, 1) := by decide +kernel
theorem d_Mo_orderSection_103 : decode b_Mo_orderSection 103 = .ok (.istore 7, 2) := by decide +kernel
theorem d_Mo_orderSection_105 : decode b_Mo_orderSection 105 = .ok (.iload 7, 2) := by decide +kernel
theorem d_Mo_orderSection_107 : decode b_Mo_orderSection 107 = .ok (.aload_n 0, 1) := by decide +kernel
theorem d_Mo_orderSection_108 : decode b_Mo_orderSection 108 = .ok (.getfield 82, 3) := by decide +kernel
theorem d_Mo_orderSection_111 : decode b_Mo_orderSection 111 = .ok (.iload_n 2, 1) := by decide +kernel
theorem d_Mo_orderSection_112 : decode b_Mo_orderSection 112 = .ok (.iaload, 1) := by decide +kernel
theorem d_Mo_orderSection_113 : decode b_Mo_orderSection 113 = .ok (.if_icmp .ge 38, 3) := by decide +kernel
theorem d_Mo_orderSection_116 : decode b_Mo_orderSection 116 = .ok (.aload_n 0, 1) := by decide +kernel
theorem d_Mo_orderSection_117 : decode b_Mo_orderSection 117 = .ok (.getfield 94, 3) := by decide +kernel
theorem d_Mo_orderSection_120 : decode b_Mo_orderSection 120 = .ok (.bipush 6, 2) := by decide +kernel
theorem d_Mo_orderSection_122 : decode b_Mo_orderSection 122 = .ok (.iload_n 2, 1) := by decide +kernel
theorem d_Mo_orderSection_123 : decode b_Mo_orderSection 123 = .ok (.imul, 1) := by decide +kernel
theorem d_Mo_orderSection_124 : decode b_Mo_orderSection 124 = .ok (.iload 7, 2) := by decide +kernel
theorem d_Mo_orderSection_126 : decode b_Mo_orderSection 126 = .ok (.iadd, 1) := by decide +kernel
theorem d_Mo_orderSection_127 : decode b_Mo_orderSection 127 = .ok (.iaload, 1) := by decide +kernel
theorem d_Mo_orderSection_128 : decode b_Mo_orderSection 128 = .ok (.iload 5, 2) := by decide +kernel
theorem d_Mo_orderSection_130 : decode b_Mo_orderSection 130 = .ok (.if_icmp .eq 15, 3) := by decide +kernel
theorem d_Mo_orderSection_133 : decode b_Mo_orderSection 133 = .ok (.aload_n 0, 1) := by decide +kernel
theorem d_Mo_orderSection_134 : decode b_Mo_orderSection 134 = .ok (.iload_n 2, 1) := by decide +kernel
theorem d_Mo_orderSection_135 : decode b_Mo_orderSection 135 = .ok (.iload 7, 2) := by decide +kernel
theorem d_Mo_orderSection_137 : decode b_Mo_orderSection 137 = .ok (.iload 6, 2) := by decide +kernel
theorem d_Mo_orderSection_139 : decode b_Mo_orderSection 139 = .ok (.invokevirtual 237, 3) := by decide +kernel
theorem d_Mo_orderSection_142 : decode b_Mo_orderSection 142 = .ok (.iinc 6 1, 3) := by decide +kernel
theorem d_Mo_orderSection_145 : decode b_Mo_orderSection 145 = .ok (.iinc 7 1, 3) := by decide +kernel
theorem d_Mo_orderSection_148 : decode b_Mo_orderSection 148 = .ok (.goto (-43), 3) := by decide +kernel
theorem d_Mo_orderSection_151 : decode b_Mo_orderSection 151 = .ok (.aload_n 0, 1) := by decide +kernel
theorem d_Mo_orderSection_152 : decode b_Mo_orderSection 152 = .ok (.getfield 82, 3) := by decide +kernel
theorem d_Mo_orderSection_155 : decode b_Mo_orderSection 155 = .ok (.iload_n 2, 1) := by decide +kernel
theorem d_Mo_orderSection_156 : decode b_Mo_orderSection 156 = .ok (.iload 6, 2) := by decide +kernel
theorem d_Mo_orderSection_158 : decode b_Mo_orderSection 158 = .ok (.iastore, 1) := by decide +kernel
theorem d_Mo_orderSection_159 : decode b_Mo_orderSection 159 = .ok (.return_, 1) := by decide +kernel
theorem d_Mo_orderSection_160 : decode b_Mo_orderSection 160 = .ok (.aload_n 0, 1) := by decide +kernel
theorem d_Mo_orderSection_161 : decode b_Mo_orderSection 161 = .ok (.getfield 205, 3) := by decide +kernel
theorem d_Mo_orderSection_164 : decode b_Mo_orderSection 164 = .ok (.bipush 21, 2) := by decide +kernel
theorem d_Mo_orderSection_166 : decode b_Mo_orderSection 166 = .ok (.if_icmp .ge 4, 3) := by decide +kernel
theorem d_Mo_orderSection_169 : decode b_Mo_orderSection 169 = .ok (.return_, 1) := by decide +kernel
theorem d_Mo_orderSection_170 : decode b_Mo_orderSection 170 = .ok (.aload_n 0, 1) := by decide +kernel
theorem d_Mo_orderSection_171 : decode b_Mo_orderSection 171 = .ok (.getfield 51, 3) := by decide +kernel
theorem d_Mo_orderSection_174 : decode b_Mo_orderSection 174 = .ok (.bipush 19, 2) := by decide +kernel
theorem d_Mo_orderSection_176 : decode b_Mo_orderSection 176 = .ok (.iaload, 1) := by decide +kernel
theorem d_Mo_orderSection_177 : decode b_Mo_orderSection 177 = .ok (.bipush 127, 2) := by decide +kernel
theorem d_Mo_orderSection_179 : decode b_Mo_orderSection 179 = .ok (.if_icmp .le 7, 3) := by decide +kernel
theorem d_Mo_orderSection_182 : decode b_Mo_orderSection 182 = .ok (.iconst 1, 1) := by decide +kernel
theorem d_Mo_orderSection_183 : decode b_Mo_orderSection 183 = .ok (.goto 4, 3) := by decide +kernel
theorem d_Mo_orderSection_186 : decode b_Mo_orderSection 186 = .ok (.iconst 0, 1) := by decide +kernel
theorem d_Mo_orderSection_187 : decode b_Mo_orderSection 187 = .ok (.istore 6, 2) := by decide +kernel
theorem d_Mo_orderSection_189 : decode b_Mo_orderSection 189 = .ok (.aload_n 0, 1) := by decide +kernel
theorem d_Mo_orderSection_190 : decode b_Mo_orderSection 190 = .ok (.getfield 51, 3) := by decide +kernel
theorem d_Mo_orderSection_193 : decode b_Mo_orderSection 193 = .ok (.bipush 19, 2) := by decide +kernel
theorem d_Mo_orderSection_195 : decode b_Mo_orderSection 195 = .ok (.iaload, 1) := by decide +kernel
theorem d_Mo_orderSection_196 : decode b_Mo_orderSection 196 = .ok (.bipush 6, 2) := by decide +kernel
theorem d_Mo_orderSection_198 : decode b_Mo_orderSection 198 = .ok (.ishr, 1) := by decide +kernel
theorem d_Mo_orderSection_199 : decode b_Mo_orderSection 199 = .ok (.iconst 1, 1) := by decide +kernel
theorem d_Mo_orderSection_200 : decode b_Mo_orderSection 200 = .ok (.iand, 1) := by decide +kernel
theorem d_Mo_orderSection_201 : decode b_Mo_orderSection 201 = .ok (.iconst 1, 1) := by decide +kernel
theorem d_Mo_orderSection_202 : decode b_Mo_orderSection 202 = .ok (.if_icmp .ne 7, 3) := by decide +kernel
theorem d_Mo_orderSection_205 : decode b_Mo_orderSection 205 = .ok (.iconst 1, 1) := by decide +kernel
theorem d_Mo_orderSection_206 : decode b_Mo_orderSection 206 = .ok (.goto 4, 3) := by decide +kernel
theorem d_Mo_orderSection_209 : decode b_Mo_orderSection 209 = .ok (.iconst 0, 1) := by decide +kernel
theorem d_Mo_orderSection_210 : decode b_Mo_orderSection 210 = .ok (.istore 7, 2) := by decide +kernel
theorem d_Mo_orderSection_212 : decode b_Mo_orderSection 212 = .ok (.aload_n 0, 1) := by decide +kernel
theorem d_Mo_orderSection_213 : decode b_Mo_orderSection 213 = .ok (.getfield 51, 3) := by decide +kernel
theorem d_Mo_orderSection_216 : decode b_Mo_orderSection 216 = .ok (.bipush 19, 2) := by decide +kernel
theorem d_Mo_orderSection_218 : decode b_Mo_orderSection 218 = .ok (.iaload, 1) := by decide +kernel
theorem d_Mo_orderSection_219 : decode b_Mo_orderSection 219 = .ok (.iconst 5, 1) := by decide +kernel
theorem d_Mo_orderSection_220 : decode b_Mo_orderSection 220 = .ok (.ishr, 1) := by decide +kernel
theorem d_Mo_orderSection_221 : decode b_Mo_orderSection 221 = .ok (.iconst 1, 1) := by decide +kernel
theorem d_Mo_orderSection_222 : decode b_Mo_orderSection 222 = .ok (.iand, 1) := by decide +kernel
theorem d_Mo_orderSection_223 : decode b_Mo_orderSection 223 = .ok (.iconst 1, 1) := by decide +kernel
theorem d_Mo_orderSection_224 : decode b_Mo_orderSection 224 = .ok (.if_icmp .ne 7, 3) := by decide +kernel
theorem d_Mo_orderSection_227 : decode b_Mo_orderSection 227 = .ok (.iconst 1, 1) := by decide +kernel
theorem d_Mo_orderSection_228 : decode b_Mo_orderSection 228 = .ok (.goto 4, 3) := by decide +kernel
theorem d_Mo_orderSection_231 : decode b_Mo_orderSection 231 = .ok (.iconst 0, 1) := by decide +kernel
theorem d_Mo_orderSection_232 : decode b_Mo_orderSection 232 = .ok (.istore 8, 2) := by decide +kernel
theorem d_Mo_orderSection_234 : decode b_Mo_orderSection 234 = .ok (.aload_n 0, 1) := by decide +kernel
theorem d_Mo_orderSection_235 : decode b_Mo_orderSection 235 = .ok (.getfield 51, 3) := by decide +kernel
theorem d_Mo_orderSection_238 : decode b_Mo_orderSection 238 = .ok (.bipush 19, 2) := by decide +kernel
theorem d_Mo_orderSection_240 : decode b_Mo_orderSection 240 = .ok (.iaload, 1) := by decide +kernel
theorem d_Mo_orderSection_241 : decode b_Mo_orderSection 241 = .ok (.iconst 4, 1) := by decide +kernel
theorem d_Mo_orderSection_242 : decode b_Mo_orderSection 242 = .ok (.ishr, 1) := by decide +kernel
theorem d_Mo_orderSection_243 : decode b_Mo_orderSection 243 = .ok (.iconst 1, 1) := by decide +kernel
theorem d_Mo_orderSection_244 : decode b_Mo_orderSection 244 = .ok (.iand, 1) := by decide +kernel
theorem d_Mo_orderSection_245 : decode b_Mo_orderSection 245 = .ok (.iconst 1, 1) := by decide +kernel
theorem d_Mo_orderSection_246 : decode b_Mo_orderSection 246 = .ok (.if_icmp .ne 7, 3) := by decide +kernel
theorem d_Mo_orderSection_249 : decode b_Mo_orderSection 249 = .ok (.iconst 1, 1) := by decide +kernel
theorem d_Mo_orderSection_250 : decode b_Mo_orderSection 250 = .ok (.goto 4, 3) := by decide +kernel
theorem d_Mo_orderSection_253 : decode b_Mo_orderSection 253 = .ok (.iconst 0, 1) := by decide +kernel
theorem d_Mo_orderSection_254 : decode b_Mo_orderSection 254 = .ok (.istore 9, 2) := by decide +kernel
theorem d_Mo_orderSection_256 : decode b_Mo_orderSection 256 = .ok (.iload 9, 2) := by decide +kernel
theorem d_Mo_orderSection_258 : decode b_Mo_orderSection 258 = .ok (.ifCond .ne 19, 3) := by decide +kernel
theorem d_Mo_orderSection_261 : decode b_Mo_orderSection 261 = .ok (.aload_n 0, 1) := by decide +kernel
theorem d_Mo_orderSection_262 : decode b_Mo_orderSection 262 = .ok (.getfield 51, 3) := by decide +kernel
theorem d_Mo_orderSection_265 : decode b_Mo_orderSection 265 = .ok (.bipush 20, 2) := by decide +kernel
theorem d_Mo_orderSection_267 : decode b_Mo_orderSection 267 = .ok (.iaload, 1) := by decide +kernel
theorem d_Mo_orderSection_268 : decode b_Mo_orderSection 268 = .ok (.bipush 127, 2) := by decide +kernel
theorem d_Mo_orderSection_270 : decode b_Mo_orderSection 270 = .ok (.if_icmp .le 7, 3) := by decide +kernel
theorem d_Mo_orderSection_273 : decode b_Mo_orderSection 273 = .ok (.iconst 1, 1) := by decide +kernel
theorem d_Mo_orderSection_274 : decode b_Mo_orderSection 274 = .ok (.goto 4, 3) := by decide +kernel
theorem d_Mo_orderSection_277 : decode b_Mo_orderSection 277 = .ok (.iconst 0, 1) := by decide +kernel
theorem d_Mo_orderSection_278 : decode b_Mo_orderSection 278 = .ok (.istore 10, 2) := by decide +kernel
theorem d_Mo_orderSection_280 : decode b_Mo_orderSection 280 = .ok (.iload 9, 2) := by decide +kernel
theorem d_Mo_orderSection_282 : decode b_Mo_orderSection 282 = .ok (.ifCond .eq 8, 3) := by decide +kernel
theorem d_Mo_orderSection_285 : decode b_Mo_orderSection 285 = .ok (.bipush 20, 2) := by decide +kernel
theorem d_Mo_orderSection_287 : decode b_Mo_orderSection 287 = .ok (.goto 15, 3) := by decide +kernel
theorem d_Mo_orderSection_290 : decode b_Mo_orderSection 290 = .ok (.iload 10, 2) := by decide +kernel
theorem d_Mo_orderSection_292 : decode b_Mo_orderSection 292 = .ok (.ifCond .eq 8, 3) := by decide +kernel
theorem d_Mo_orderSection_295 : decode b_Mo_orderSection 295 = .ok (.bipush 25, 2) := by decide +kernel
theorem d_Mo_orderSection_297 : decode b_Mo_orderSection 297 = .ok (.goto 5, 3) := by decide +kernel
theorem d_Mo_orderSection_300 : decode b_Mo_orderSection 300 = .ok (.bipush 21, 2) := by decide +kernel
theorem d_Mo_orderSection_302 : decode b_Mo_orderSection 302 = .ok (.istore 11, 2) := by decide +kernel
theorem d_Mo_orderSection_304 : decode b_Mo_orderSection 304 = .ok (.iload 11, 2) := by decide +kernel
theorem d_Mo_orderSection_306 : decode b_Mo_orderSection 306 = .ok (.iload 8, 2) := by decide +kernel
theorem d_Mo_orderSection_308 : decode b_Mo_orderSection 308 = .ok (.ifCond .eq 7, 3) := by decide +kernel
theorem d_Mo_orderSection_311 : decode b_Mo_orderSection 311 = .ok (.iconst 5, 1) := by decide +kernel
theorem d_Mo_orderSection_312 : decode b_Mo_orderSection 312 = .ok (.goto 4, 3) := by decide +kernel
theorem d_Mo_orderSection_315 : decode b_Mo_orderSection 315 = .ok (.iconst 0, 1) := by decide +kernel
theorem d_Mo_orderSection_316 : decode b_Mo_orderSection 316 = .ok (.iadd, 1) := by decide +kernel
theorem d_Mo_orderSection_317 : decode b_Mo_orderSection 317 = .ok (.iconst 4, 1) := by decide +kernel
theorem d_Mo_orderSection_318 : decode b_Mo_orderSection 318 = .ok (.iadd, 1) := by decide +kernel
theorem d_Mo_orderSection_319 : decode b_Mo_orderSection 319 = .ok (.istore 12, 2) := by decide +kernel
theorem d_Mo_orderSection_321 : decode b_Mo_orderSection 321 = .ok (.iload 7, 2) := by decide +kernel
theorem d_Mo_orderSection_323 : decode b_Mo_orderSection 323 = .ok (.ifCond .eq 12, 3) := by decide +kernel
theorem d_Mo_orderSection_326 : decode b_Mo_orderSection 326 = .ok (.aload_n 0, 1) := by decide +kernel
theorem d_Mo_orderSection_327 : decode b_Mo_orderSection 327 = .ok (.getfield 205, 3) := by decide +kernel
theorem d_Mo_orderSection_330 : decode b_Mo_orderSection 330 = .ok (.iload 12, 2) := by decide +kernel
theorem d_Mo_orderSection_332 : decode b_Mo_orderSection 332 = .ok (.if_icmp .ge 4, 3) := by decide +kernel
theorem d_Mo_orderSection_335 : decode b_Mo_orderSection 335 = .ok (.return_, 1) := by decide +kernel
theorem d_Mo_orderSection_336 : decode b_Mo_orderSection 336 = .ok (.iload 8, 2) := by decide +kernel
theorem d_Mo_orderSection_338 : decode b_Mo_orderSection 338 = .ok (.ifCond .eq 19, 3) := by decide +kernel
theorem d_Mo_orderSection_341 : decode b_Mo_orderSection 341 = .ok (.aload_n 0, 1) := by decide +kernel
theorem d_Mo_orderSection_342 : decode b_Mo_orderSection 342 = .ok (.getfield 51, 3) := by decide +kernel
theorem d_Mo_orderSection_345 : decode b_Mo_orderSection 345 = .ok (.iload 11, 2) := by decide +kernel
theorem d_Mo_orderSection_347 : decode b_Mo_orderSection 347 = .ok (.iaload, 1) := by decide +kernel
theorem d_Mo_orderSection_348 : decode b_Mo_orderSection 348 = .ok (.bipush 127, 2) := by decide +kernel
theorem d_Mo_orderSection_350 : decode b_Mo_orderSection 350 = .ok (.if_icmp .le 7, 3) := by decide +kernel
theorem d_Mo_orderSection_353 : decode b_Mo_orderSection 353 = .ok (.iconst 1, 1) := by decide +kernel
theorem d_Mo_orderSection_354 : decode b_Mo_orderSection 354 = .ok (.goto 4, 3) := by decide +kernel
theorem d_Mo_orderSection_357 : decode b_Mo_orderSection 357 = .ok (.iconst 0, 1) := by decide +kernel
theorem d_Mo_orderSection_358 : decode b_Mo_orderSection 358 = .ok (.istore 13, 2) := by decide +kernel
theorem d_Mo_orderSection_360 : decode b_Mo_orderSection 360 = .ok (.iload 13, 2) := by decide +kernel
theorem d_Mo_orderSection_362 : decode b_Mo_orderSection 362 = .ok (.ifCond .eq 23, 3) := by decide +kernel
theorem d_Mo_orderSection_365 : decode b_Mo_orderSection 365 = .ok (.aload_n 0, 1) := by decide +kernel
theorem d_Mo_orderSection_366 : decode b_Mo_orderSection 366 = .ok (.getfield 51, 3) := by decide +kernel
theorem d_Mo_orderSection_369 : decode b_Mo_orderSection 369 = .ok (.bipush 8, 2) := by decide +kernel
theorem d_Mo_orderSection_371 : decode b_Mo_orderSection 371 = .ok (.iload 11, 2) := by decide +kernel
theorem d_Mo_orderSection_373 : decode b_Mo_orderSection 373 = .ok (.imul, 1) := by decide +kernel
theorem d_Mo_orderSection_374 : decode b_Mo_orderSection 374 = .ok (.bipush 7, 2) := by decide +kernel
theorem d_Mo_orderSection_376 : decode b_Mo_orderSection 376 = .ok (.iadd, 1) := by decide +kernel
theorem d_Mo_orderSection_377 : decode b_Mo_orderSection 377 = .ok (.bipush 33, 2) := by decide +kernel
theorem d_Mo_orderSection_379 : decode b_Mo_orderSection 379 = .ok (.invokestatic 189, 3) := by decide +kernel
theorem d_Mo_orderSection_382 : decode b_Mo_orderSection 382 = .ok (.goto 6, 3) := by decide +kernel
theorem d_Mo_orderSection_385 : decode b_Mo_orderSection 385 = .ok (.ldc2_w 154, 3) := by decide +kernel
theorem d_Mo_orderSection_388 : decode b_Mo_orderSection 388 = .ok (.lstore 14, 2) := by decide +kernel
theorem d_Mo_orderSection_390 : decode b_Mo_orderSection 390 = .ok (.iload 10, 2) := by decide +kernel
theorem d_Mo_orderSection_392 : decode b_Mo_orderSection 392 = .ok (.ifCond .eq 35, 3) := by decide +kernel
theorem d_Mo_orderSection_395 : decode b_Mo_orderSection 395 = .ok (.aload_n 0, 1) := by decide +kernel
theorem d_Mo_orderSection_396 : decode b_Mo_orderSection 396 = .ok (.iload_n 2, 1) := by decide +kernel
theorem d_Mo_orderSection_397 : decode b_Mo_orderSection 397 = .ok (.aload_n 0, 1) := by decide +kernel
theorem d_Mo_orderSection_398 : decode b_Mo_orderSection 398 = .ok (.getfield 51, 3) := by decide +kernel
theorem d_Mo_orderSection_401 : decode b_Mo_orderSection 401 = .ok (.sipush 167, 3) := by decide +kernel
theorem d_Mo_orderSection_404 : decode b_Mo_orderSection 404 = .ok (.bipush 33, 2) := by decide +kernel
theorem d_Mo_orderSection_406 : decode b_Mo_orderSection 406 = .ok (.invokestatic 189, 3) := by decide +kernel
theorem d_Mo_orderSection_409 : decode b_Mo_orderSection 409 = .ok (.lload_n 3, 1) := by decide +kernel
theorem d_Mo_orderSection_410 : decode b_Mo_orderSection 410 = .ok (.ladd, 1) := by decide +kernel
theorem d_Mo_orderSection_411 : decode b_Mo_orderSection 411 = .ok (.ldc2_w 241, 3) := by decide +kernel
theorem d_Mo_orderSection_414 : decode b_Mo_orderSection 414 = .ok (.lrem, 1) := by decide +kernel
theorem d_Mo_orderSection_415 : decode b_Mo_orderSection 415 = .ok (.iload 5, 2) := by decide +kernel
theorem d_Mo_orderSection_417 : decode b_Mo_orderSection 417 = .ok (.iload 6, 2) := by decide +kernel
theorem d_Mo_orderSection_419 : decode b_Mo_orderSection 419 = .ok (.lload 14, 2) := by decide +kernel
theorem d_Mo_orderSection_421 : decode b_Mo_orderSection 421 = .ok (.invokevirtual 243, 3) := by decide +kernel
theorem d_Mo_orderSection_424 : decode b_Mo_orderSection 424 = .ok (.goto 62, 3) := by decide +kernel
theorem d_Mo_orderSection_427 : decode b_Mo_orderSection 427 = .ok (.aload_n 0, 1) := by decide +kernel
theorem d_Mo_orderSection_428 : decode b_Mo_orderSection 428 = .ok (.getfield 76, 3) := by decide +kernel
theorem d_Mo_orderSection_431 : decode b_Mo_orderSection 431 = .ok (.iload_n 2, 1) := by decide +kernel
theorem d_Mo_orderSection_432 : decode b_Mo_orderSection 432 = .ok (.iload 6, 2) := by decide +kernel
theorem d_Mo_orderSection_434 : decode b_Mo_orderSection 434 = .ok (.bastore, 1) := by decide +kernel
theorem d_Mo_orderSection_435 : decode b_Mo_orderSection 435 = .ok (.iload 13, 2) := by decide +kernel
theorem d_Mo_orderSection_437 : decode b_Mo_orderSection 437 = .ok (.ifCond .eq 49, 3) := by decide +kernel
theorem d_Mo_orderSection_440 : decode b_Mo_orderSection 440 = .ok (.aload_n 0, 1) := by decide +kernel
theorem d_Mo_orderSection_441 : decode b_Mo_orderSection 441 = .ok (.getfield 79, 3) := by decide +kernel
theorem d_Mo_orderSection_444 : decode b_Mo_orderSection 444 = .ok (.iload_n 2, 1) := by decide +kernel
theorem d_Mo_orderSection_445 : decode b_Mo_orderSection 445 = .ok (.laload, 1) := by decide +kernel
theorem d_Mo_orderSection_446 : decode b_Mo_orderSection 446 = .ok (.ldc2_w 154, 3) := by decide +kernel
theorem d_Mo_orderSection_449 : decode b_Mo_orderSection 449 = .ok (.lcmp, 1) := by decide +kernel
theorem d_Mo_orderSection_450 : decode b_Mo_orderSection 450 = .ok (.ifCond .eq 36, 3) := by decide +kernel
theorem d_Mo_orderSection_453 : decode b_Mo_orderSection 453 = .ok (.aload_n 0, 1) := by decide +kernel
theorem d_Mo_orderSection_454 : decode b_Mo_orderSection 454 = .ok (.iload_n 2, 1) := by decide +kernel
theorem d_Mo_orderSection_455 : decode b_Mo_orderSection 455 = .ok (.aload_n 0, 1) := by decide +kernel
theorem d_Mo_orderSection_456 : decode b_Mo_orderSection 456 = .ok (.getfield 79, 3) := by decide +kernel
theorem d_Mo_orderSection_459 : decode b_Mo_orderSection 459 = .ok (.iload_n 2, 1) := by decide +kernel
theorem d_Mo_orderSection_460 : decode b_Mo_orderSection 460 = .ok (.laload, 1) := by decide +kernel
theorem d_Mo_orderSection_461 : decode b_Mo_orderSection 461 = .ok (.lload 14, 2) := by decide +kernel
theorem d_Mo_orderSection_463 : decode b_Mo_orderSection 463 = .ok (.ladd, 1) := by decide +kernel
theorem d_Mo_orderSection_464 : decode b_Mo_orderSection 464 = .ok (.ldc2_w 241, 3) := by decide +kernel
theorem d_Mo_orderSection_467 : decode b_Mo_orderSection 467 = .ok (.lrem, 1) := by decide +kernel
theorem d_Mo_orderSection_468 : decode b_Mo_orderSection 468 = .ok (.iload 5, 2) := by decide +kernel
theorem d_Mo_orderSection_470 : decode b_Mo_orderSection 470 = .ok (.iload 6, 2) := by decide +kernel
theorem d_Mo_orderSection_472 : decode b_Mo_orderSection 472 = .ok (.ifCond .ne 7, 3) := by decide +kernel
theorem d_Mo_orderSection_475 : decode b_Mo_orderSection 475 = .ok (.iconst 1, 1) := by decide +kernel
theorem d_Mo_orderSection_476 : decode b_Mo_orderSection 476 = .ok (.goto 4, 3) := by decide +kernel
theorem d_Mo_orderSection_479 : decode b_Mo_orderSection 479 = .ok (.iconst 0, 1) := by decide +kernel
theorem d_Mo_orderSection_480 : decode b_Mo_orderSection 480 = .ok (.ldc2_w 154, 3) := by decide +kernel
theorem d_Mo_orderSection_483 : decode b_Mo_orderSection 483 = .ok (.invokevirtual 247, 3) := by decide +kernel
theorem d_Mo_orderSection_486 : decode b_Mo_orderSection 486 = .ok (.return_, 1) := by decide +kernel
/-! The reference takes an order -/
abbrev orH (se : Nat → Int32) (ln : Nat) : Prop := se 0 = 252 ∧ 19 ≤ ln ∧ se 3 = 0 ∧ ¬ 127 < se 4 ∧ se 13 = 5
abbrev orWh (se : Nat → Int32) : Prop := (se 19 >>> ((6 : Int32) &&& 31)) &&& 1 = 1
abbrev orLo (se : Nat → Int32) : Prop := (se 19 >>> ((5 : Int32) &&& 31)) &&& 1 = 1
abbrev orSo (se : Nat → Int32) : Prop := (se 19 >>> ((4 : Int32) &&& 31)) &&& 1 = 1
abbrev orTi (se : Nat → Int32) : Prop := ¬ orSo se ∧ 127 < se 20
def orA (se : Nat → Int32) : Nat := if orSo se then 20 else if orTi se then 25 else 21
theorem orA_le (se : Nat → Int32) : orA se ≤ 25 := by
  unfold orA
  split
  · omega
  · split <;> omega
def orL (se : Nat → Int32) : Nat := if orLo se then 5 else 0
theorem orL_le (se : Nat → Int32) : orL se ≤ 5 := by
  unfold orL
  split <;> omega
abbrev orBk (se : Nat → Int32) : Prop := orLo se ∧ 127 < se (orA se)
def orS (se : Nat → Int32) : Int64 := if orBk se then mb_l se (8 * orA se + 7) 33 else -1
def orN (se : Nat → Int32) : Int32 := (mb_l se 112 32).toInt32
def orAw (se : Nat → Int32) : Int32 := if 127 < se 19 then 1 else 0
def caU (z : OQ) (k : Nat) (v : Int32) : Nat → OQ × Nat
  | 0 => (z, 0)
  | j + 1 => if (caU z k v j).1.2.1 (6 * k + j) = v then caU z k v j else (omv (caU z k v j).1 (6 * k + j) (6 * k + (caU z k v j).2), (caU z k v j).2 + 1)
def orZ (g : PG) (y : OQ × (Nat → Int32)) : PG := ⟨g.nu, g.pi, g.vs, g.cp, g.sc, g.aw, g.nw, y.2, g.ty, g.sp, y.1⟩
def orB (g : PG) (k : Nat) (a : Int32) : PG := ⟨g.nu, g.pi, g.vs, g.cp, g.sc, upd g.aw k (zb a), g.nw, g.wt, g.ty, g.sp, g.z⟩
def orU (g : PG) (se : Nat → Int32) (ln k w : Nat) : PG :=
  if orH se ln then
    if 127 < se 18 then orZ g ((caU g.z k (orN se) w).1, upd g.wt k (nI (caU g.z k (orN se) w).2))
    else if ln < 21 then g
    else if orWh se ∧ orA se + orL se + 4 ≤ ln then
      if orTi se then orZ g (awU g.z g.wt k w (rndV (mb_l se 167 33 + mb_l se 39 33)) (orN se) (orAw se) (orS se))
      else if orBk se ∧ ¬ g.nw k = -1 then orZ (orB g k (orAw se)) (apU g.z g.wt k w (rndV (g.nw k + orS se)) (orN se) (if orAw se = 0 then 1 else 0) (-1))
      else orB g k (orAw se)
    else g
  else g

set_option maxHeartbeats 4000000 in
set_option maxRecDepth 100000 in
theorem c_Mo_orderSection (l : Launch) (D : va_G) (sz : Nat) (cI : ClassId) (h : Nat) (r : Nat → Nat) (th si lv pn pl rs : Int32) (cJ cZ : ClassId) (ng : Nat) (g : PG) (se : Nat → Int32) (ns : Nat → Nat) (ln s9 k w : Nat) (v : Int32) (hng : ng ≤ 4) (hln : ln ≤ 1024) (hns : ∀ k, k < ng → g.sc k = nI (ns k) ∧ ns k ≤ 4) (hsk : skG g.sp ns v ng ng = nI s9) (hs9 : s9 < 16) (hk9 : s9 / 4 = k) (hw : g.wt k = nI w) (hw6 : w ≤ 6) : Met l y_Mo_orderSection [Cond.code y_Mo_orderSection b_Mo_orderSection 16 none] ({ frames := 3, cells := 0, slots := 0, locals := 82 }) (zM [.ref h, .int v] D [(h, .inr (13, mO r th si (nI ln) lv (nI ng) pn pl rs)), (r 15, .inl (cI, 1024, .inl se)), (r 20, .inl (cI, 4, .inl g.nu)), (r 21, .inl (cI, 4, .inl g.pi)), (r 22, .inl (cI, 4, .inl g.vs)), (r 23, .inl (cI, 4, .inl g.cp)), (r 24, .inl (cI, 4, .inl g.sc)), (r 25, .inl (cZ, 4, .inl g.aw)), (r 26, .inl (cJ, 4, .inr (.inl g.nw))), (r 27, .inl (cI, 4, .inl g.wt)), (r 28, .inl (cI, 16, .inl g.ty)), (r 29, .inl (cI, 16, .inl g.sp)), (r 30, .inl (cJ, 24, .inr (.inl g.z.1))), (r 31, .inl (cI, 24, .inl g.z.2.1)), (r 32, .inl (cZ, 24, .inl g.z.2.2.1)), (r 33, .inl (cJ, 24, .inr (.inl g.z.2.2.2)))] [(cI, .int), (cJ, .long), (cZ, .boolean)] sz) (va_Qv (fun (u : PG) => u = orU g se ln k w) (fun (u : PG) t => zW D (va_A [(h, .inr (13, mO r th si (nI ln) lv (nI ng) pn pl rs)), (r 15, .inl (cI, 1024, .inl se)), (r 20, .inl (cI, 4, .inl g.nu)), (r 21, .inl (cI, 4, .inl g.pi)), (r 22, .inl (cI, 4, .inl g.vs)), (r 23, .inl (cI, 4, .inl g.cp)), (r 24, .inl (cI, 4, .inl g.sc)), (r 25, .inl (cZ, 4, .inl g.aw)), (r 26, .inl (cJ, 4, .inr (.inl g.nw))), (r 27, .inl (cI, 4, .inl g.wt)), (r 28, .inl (cI, 16, .inl g.ty)), (r 29, .inl (cI, 16, .inl g.sp)), (r 30, .inl (cJ, 24, .inr (.inl g.z.1))), (r 31, .inl (cI, 24, .inl g.z.2.1)), (r 32, .inl (cZ, 24, .inl g.z.2.2.1)), (r 33, .inl (cJ, 24, .inr (.inl g.z.2.2.2)))] sz) [(h, .inr (13, mO r th si (nI ln) lv (nI ng) pn pl rs)), (r 15, .inl (cI, 1024, .inl se)), (r 20, .inl (cI, 4, .inl u.nu)), (r 21, .inl (cI, 4, .inl u.pi)), (r 22, .inl (cI, 4, .inl u.vs)), (r 23, .inl (cI, 4, .inl u.cp)), (r 24, .inl (cI, 4, .inl u.sc)), (r 25, .inl (cZ, 4, .inl u.aw)), (r 26, .inl (cJ, 4, .inr (.inl u.nw))), (r 27, .inl (cI, 4, .inl u.wt)), (r 28, .inl (cI, 16, .inl u.ty)), (r 29, .inl (cI, 16, .inl u.sp)), (r 30, .inl (cJ, 24, .inr (.inl u.z.1))), (r 31, .inl (cI, 24, .inl u.z.2.1)), (r 32, .inl (cZ, 24, .inl u.z.2.2.1)), (r 33, .inl (cJ, 24, .inr (.inl u.z.2.2.2)))] [(cI, .int), (cJ, .long), (cZ, .boolean)] t) (va_A [(h, .inr (13, mO r th si (nI ln) lv (nI ng) pn pl rs)), (r 15, .inl (cI, 1024, .inl se)), (r 20, .inl (cI, 4, .inl g.nu)), (r 21, .inl (cI, 4, .inl g.pi)), (r 22, .inl (cI, 4, .inl g.vs)), (r 23, .inl (cI, 4, .inl g.cp)), (r 24, .inl (cI, 4, .inl g.sc)), (r 25, .inl (cZ, 4, .inl g.aw)), (r 26, .inl (cJ, 4, .inr (.inl g.nw))), (r 27, .inl (cI, 4, .inl g.wt)), (r 28, .inl (cI, 16, .inl g.ty)), (r 29, .inl (cI, 16, .inl g.sp)), (r 30, .inl (cJ, 24, .inr (.inl g.z.1))), (r 31, .inl (cI, 24, .inl g.z.2.1)), (r 32, .inl (cZ, 24, .inl g.z.2.2.1)), (r 33, .inl (cJ, 24, .inr (.inl g.z.2.2.2)))] sz)) 0 0 (va_A [(h, .inr (13, mO r th si (nI ln) lv (nI ng) pn pl rs)), (r 15, .inl (cI, 1024, .inl se)), (r 20, .inl (cI, 4, .inl g.nu)), (r 21, .inl (cI, 4, .inl g.pi)), (r 22, .inl (cI, 4, .inl g.vs)), (r 23, .inl (cI, 4, .inl g.cp)), (r 24, .inl (cI, 4, .inl g.sc)), (r 25, .inl (cZ, 4, .inl g.aw)), (r 26, .inl (cJ, 4, .inr (.inl g.nw))), (r 27, .inl (cI, 4, .inl g.wt)), (r 28, .inl (cI, 16, .inl g.ty)), (r 29, .inl (cI, 16, .inl g.sp)), (r 30, .inl (cJ, 24, .inr (.inl g.z.1))), (r 31, .inl (cI, 24, .inl g.z.2.1)), (r 32, .inl (cZ, 24, .inl g.z.2.2.1)), (r 33, .inl (cJ, 24, .inr (.inl g.z.2.2.2)))] sz) := by
  refine Met.ofW (cc := b_Mo_orderSection) (maxL := 16) (ret := none) (by decide) rfl ?_
  intro p e s m args below meth cd s₁ Bd hml hv
  obtain ⟨rfl, hsz, hP, hK, hN, hD0⟩ := hv
  have hx := Bd.exec
  have hb := Bd.bytes
  have hr := Bd.returns
  have hts := hN.use (a := ([.ref h, .int v]).toArray)
  have hown : s.vm.findClass R_Mo = some m.cls := findClass_of_methodNamed Bd.named
  have hlocks := Bd.notSynchronized
  subst hsz
  have hD := hD0.self (sz := s.heap.size)
  clear hD0
  have hA : ∀ q : Nat, s.heap.size ≤ q → va_A [(h, .inr (13, mO r th si (nI ln) lv (nI ng) pn pl rs)), (r 15, .inl (cI, 1024, .inl se)), (r 20, .inl (cI, 4, .inl g.nu)), (r 21, .inl (cI, 4, .inl g.pi)), (r 22, .inl (cI, 4, .inl g.vs)), (r 23, .inl (cI, 4, .inl g.cp)), (r 24, .inl (cI, 4, .inl g.sc)), (r 25, .inl (cZ, 4, .inl g.aw)), (r 26, .inl (cJ, 4, .inr (.inl g.nw))), (r 27, .inl (cI, 4, .inl g.wt)), (r 28, .inl (cI, 16, .inl g.ty)), (r 29, .inl (cI, 16, .inl g.sp)), (r 30, .inl (cJ, 24, .inr (.inl g.z.1))), (r 31, .inl (cI, 24, .inl g.z.2.1)), (r 32, .inl (cZ, 24, .inl g.z.2.2.1)), (r 33, .inl (cJ, 24, .inr (.inl g.z.2.2.2)))] s.heap.size q := fun q h => Or.inr h
  have hS : va_S (va_A [(h, .inr (13, mO r th si (nI ln) lv (nI ng) pn pl rs)), (r 15, .inl (cI, 1024, .inl se)), (r 20, .inl (cI, 4, .inl g.nu)), (r 21, .inl (cI, 4, .inl g.pi)), (r 22, .inl (cI, 4, .inl g.vs)), (r 23, .inl (cI, 4, .inl g.cp)), (r 24, .inl (cI, 4, .inl g.sc)), (r 25, .inl (cZ, 4, .inl g.aw)), (r 26, .inl (cJ, 4, .inr (.inl g.nw))), (r 27, .inl (cI, 4, .inl g.wt)), (r 28, .inl (cI, 16, .inl g.ty)), (r 29, .inl (cI, 16, .inl g.sp)), (r 30, .inl (cJ, 24, .inr (.inl g.z.1))), (r 31, .inl (cI, 24, .inl g.z.2.1)), (r 32, .inl (cZ, 24, .inl g.z.2.2.1)), (r 33, .inl (cJ, 24, .inr (.inl g.z.2.2.2)))] s.heap.size) s.heap s.heap [] := va_S.rf
  generalize hAe : va_A [(h, .inr (13, mO r th si (nI ln) lv (nI ng) pn pl rs)), (r 15, .inl (cI, 1024, .inl se)), (r 20, .inl (cI, 4, .inl g.nu)), (r 21, .inl (cI, 4, .inl g.pi)), (r 22, .inl (cI, 4, .inl g.vs)), (r 23, .inl (cI, 4, .inl g.cp)), (r 24, .inl (cI, 4, .inl g.sc)), (r 25, .inl (cZ, 4, .inl g.aw)), (r 26, .inl (cJ, 4, .inr (.inl g.nw))), (r 27, .inl (cI, 4, .inl g.wt)), (r 28, .inl (cI, 16, .inl g.ty)), (r 29, .inl (cI, 16, .inl g.sp)), (r 30, .inl (cJ, 24, .inr (.inl g.z.1))), (r 31, .inl (cI, 24, .inl g.z.2.1)), (r 32, .inl (cZ, 24, .inl g.z.2.2.1)), (r 33, .inl (cJ, 24, .inr (.inl g.z.2.2.2)))] s.heap.size = A at hD hA hS ⊢
  have hP : va_P D classes [(h, .inr (13, mO r th si (nI ln) lv (nI ng) pn pl rs)), (r 15, .inl (cI, 1024, .inl se)), (r 20, .inl (cI, 4, .inl g.nu)), (r 21, .inl (cI, 4, .inl g.pi)), (r 22, .inl (cI, 4, .inl g.vs)), (r 23, .inl (cI, 4, .inl g.cp)), (r 24, .inl (cI, 4, .inl g.sc)), (r 25, .inl (cZ, 4, .inl g.aw)), (r 26, .inl (cJ, 4, .inr (.inl g.nw))), (r 27, .inl (cI, 4, .inl g.wt)), (r 28, .inl (cI, 16, .inl g.ty)), (r 29, .inl (cI, 16, .inl g.sp)), (r 30, .inl (cJ, 24, .inr (.inl g.z.1))), (r 31, .inl (cI, 24, .inl g.z.2.1)), (r 32, .inl (cZ, 24, .inl g.z.2.2.1)), (r 33, .inl (cJ, 24, .inr (.inl g.z.2.2.2)))] s.heap := hP
  have hl := lv_entry ([.ref h, .int v]) (n := 16) (Nat.le_of_ble_eq_true rfl)
  rw [lg_entry_eq]
  generalize (lg_sl ([.ref h, .int v]) ++ List.replicate (16 - (lg_sl ([.ref h, .int v])).length) Slot.unset).toArray = ls at hl ⊢
  have hl : lv_has ls 16 [(0, .ref h), (1, .int v)] := hl
  refine lv_aload_n hx hb d_Mo_orderSection_0 rfl (lv_at hl 0 rfl) ?_
  refine lv_iload_n hx hb d_Mo_orderSection_1 rfl (lv_at hl 1 rfl) ?_
  have hPc := hP.sub (ws' := [(h, .inr (13, mO r th si (nI ln) lv (nI ng) pn pl rs)), (r 24, .inl (cI, 4, .inl g.sc)), (r 29, .inl (cI, 16, .inl g.sp))]) [0, 6, 11] rfl
  have hKc := hK.sub (tys' := [(cI, .int)]) [0] rfl
  refine z_ci (va_runV (As := [.int v]) (rest := []) ⟨hx, hb, hml, hown, hts⟩ (c_Mo_streamWith l D cI h r th si (nI ln) lv pn pl rs ng g.sc g.sp ns v hng hns) (z_cV hN wd_1314 wd_67 wd_1311 hd_Mo_streamWith rfl rfl ⟨Nat.le_of_ble_eq_true rfl, Nat.le_of_ble_eq_true rfl⟩ wd_1313 wd_33) (z_preV (va_recv (ci := 13) (q0 := 0) hK hP rfl rfl) hPc hKc hN) rfl rfl hl.1 rfl (lv_room (Nat.le_of_ble_eq_true rfl)) d_Mo_orderSection_2 ⟨Nat.le_of_ble_eq_true rfl, Nat.le_of_ble_eq_true rfl⟩) (fun r2 e2 => ?_)
  subst e2
  refine z_topi (w := nI s9) hsk ?_
  refine lv_iconst (v := 4) hx hb d_Mo_orderSection_5 (by decide) ?_
  refine lv_idiv hx hb d_Mo_orderSection_6 (by decide) ?_
  refine z_topi (w := nI k) ((pk_div (d := 4) (by omega) (by omega) (by omega)).trans (by rw [hk9])) ?_
  refine lv_istore_n (lv' := [(2, .int (nI k)), (0, .ref h), (1, .int v)]) hx hb d_Mo_orderSection_7 rfl hl (by decide) rfl (fun ls hl => ?_)
  refine lv_aload_n hx hb d_Mo_orderSection_8 rfl (lv_at hl 1 rfl) ?_
  refine va_get (D := D) (ci := 13) (v := .ref (r 15)) (C := R_Mo) (T := F_Mo) (N := 54) hx hb hts i_Mo hown hK hP 0 rfl rfl 15 (by decide) (hts _ wd_1103) (fun _ h9 => h9) rfl d_Mo_orderSection_9 ?_
  refine lv_iconst (v := 0) hx hb d_Mo_orderSection_12 (by decide) ?_
  refine z_iald hx hb hK hP 1 0 rfl rfl 0 rfl (by omega) (by omega) d_Mo_orderSection_13 ?_
  refine lv_sipush (v := 252) hx hb d_Mo_orderSection_14 (by decide) ?_
  refine lv_icmp_ne (tgt := 60) hx hb d_Mo_orderSection_17 rfl (fun h17 => ?_) (fun h17 => ?_)
  · have hP9 := hP.sub (ws' := [(h, .inr (13, mO r th si (nI ln) lv (nI ng) pn pl rs)), (r 15, .inl (cI, 1024, .inl se)), (r 20, .inl (cI, 4, .inl g.nu)), (r 21, .inl (cI, 4, .inl g.pi)), (r 22, .inl (cI, 4, .inl g.vs)), (r 23, .inl (cI, 4, .inl g.cp)), (r 24, .inl (cI, 4, .inl g.sc)), (r 25, .inl (cZ, 4, .inl g.aw)), (r 26, .inl (cJ, 4, .inr (.inl g.nw))), (r 27, .inl (cI, 4, .inl g.wt)), (r 28, .inl (cI, 16, .inl g.ty)), (r 29, .inl (cI, 16, .inl g.sp)), (r 30, .inl (cJ, 24, .inr (.inl g.z.1))), (r 31, .inl (cI, 24, .inl g.z.2.1)), (r 32, .inl (cZ, 24, .inl g.z.2.2.1)), (r 33, .inl (cJ, 24, .inr (.inl g.z.2.2.2)))]) [0, 1, 2, 3, 4, 5, 6, 7, 8, 9, 10, 11, 12, 13, 14, 15] rfl
    have hD9 := hD.sub (ws' := [(h, .inr (13, mO r th si (nI ln) lv (nI ng) pn pl rs)), (r 15, .inl (cI, 1024, .inl se)), (r 20, .inl (cI, 4, .inl g.nu)), (r 21, .inl (cI, 4, .inl g.pi)), (r 22, .inl (cI, 4, .inl g.vs)), (r 23, .inl (cI, 4, .inl g.cp)), (r 24, .inl (cI, 4, .inl g.sc)), (r 25, .inl (cZ, 4, .inl g.aw)), (r 26, .inl (cJ, 4, .inr (.inl g.nw))), (r 27, .inl (cI, 4, .inl g.wt)), (r 28, .inl (cI, 16, .inl g.ty)), (r 29, .inl (cI, 16, .inl g.sp)), (r 30, .inl (cJ, 24, .inr (.inl g.z.1))), (r 31, .inl (cI, 24, .inl g.z.2.1)), (r 32, .inl (cZ, 24, .inl g.z.2.2.1)), (r 33, .inl (cJ, 24, .inr (.inl g.z.2.2.2)))]) [0, 1, 2, 3, 4, 5, 6, 7, 8, 9, 10, 11, 12, 13, 14, 15] (by decide) rfl
    have hK9 := hK.sub (tys' := [(cI, .int), (cJ, .long), (cZ, .boolean)]) [0, 1, 2] rfl
    exact W.vret hx hb hr (fun t ht hW => ⟨⟨g, rfl, (by unfold orU; rw [if_neg (by first | exact fun z => h17 z.1 | exact fun z => absurd z.2.1 (by omega) | exact fun z => h35 z.2.2.1 | exact fun z => z.2.2.2.1 h46 | exact fun z => h57 z.2.2.2.2)]), ⟨by rw [ht]; exact hP9, va_K.moved hW.alike hK9, hD9⟩⟩, hS.F ht⟩) hS.2.2 d_Mo_orderSection_60
  · refine lv_aload_n hx hb d_Mo_orderSection_20 rfl (lv_at hl 1 rfl) ?_
    refine va_get (D := D) (ci := 13) (v := .int (nI ln)) (C := R_Mo) (T := F_Mo) (N := 54) hx hb hts i_Mo hown hK hP 0 rfl rfl 16 (by decide) (hts _ wd_1104) (fun _ h9 => h9) rfl d_Mo_orderSection_21 ?_
    refine lv_bipush (v := 19) hx hb d_Mo_orderSection_24 (by decide) ?_
    refine lv_icmp_lt (tgt := 60) hx hb d_Mo_orderSection_26 rfl (fun h26 => ?_) (fun h26 => ?_)
    · have h26 := (nI_ltI (b := 19) (by omega) (by omega)).mp h26
      have hP9 := hP.sub (ws' := [(h, .inr (13, mO r th si (nI ln) lv (nI ng) pn pl rs)), (r 15, .inl (cI, 1024, .inl se)), (r 20, .inl (cI, 4, .inl g.nu)), (r 21, .inl (cI, 4, .inl g.pi)), (r 22, .inl (cI, 4, .inl g.vs)), (r 23, .inl (cI, 4, .inl g.cp)), (r 24, .inl (cI, 4, .inl g.sc)), (r 25, .inl (cZ, 4, .inl g.aw)), (r 26, .inl (cJ, 4, .inr (.inl g.nw))), (r 27, .inl (cI, 4, .inl g.wt)), (r 28, .inl (cI, 16, .inl g.ty)), (r 29, .inl (cI, 16, .inl g.sp)), (r 30, .inl (cJ, 24, .inr (.inl g.z.1))), (r 31, .inl (cI, 24, .inl g.z.2.1)), (r 32, .inl (cZ, 24, .inl g.z.2.2.1)), (r 33, .inl (cJ, 24, .inr (.inl g.z.2.2.2)))]) [0, 1, 2, 3, 4, 5, 6, 7, 8, 9, 10, 11, 12, 13, 14, 15] rfl
      have hD9 := hD.sub (ws' := [(h, .inr (13, mO r th si (nI ln) lv (nI ng) pn pl rs)), (r 15, .inl (cI, 1024, .inl se)), (r 20, .inl (cI, 4, .inl g.nu)), (r 21, .inl (cI, 4, .inl g.pi)), (r 22, .inl (cI, 4, .inl g.vs)), (r 23, .inl (cI, 4, .inl g.cp)), (r 24, .inl (cI, 4, .inl g.sc)), (r 25, .inl (cZ, 4, .inl g.aw)), (r 26, .inl (cJ, 4, .inr (.inl g.nw))), (r 27, .inl (cI, 4, .inl g.wt)), (r 28, .inl (cI, 16, .inl g.ty)), (r 29, .inl (cI, 16, .inl g.sp)), (r 30, .inl (cJ, 24, .inr (.inl g.z.1))), (r 31, .inl (cI, 24, .inl g.z.2.1)), (r 32, .inl (cZ, 24, .inl g.z.2.2.1)), (r 33, .inl (cJ, 24, .inr (.inl g.z.2.2.2)))]) [0, 1, 2, 3, 4, 5, 6, 7, 8, 9, 10, 11, 12, 13, 14, 15] (by decide) rfl
      have hK9 := hK.sub (tys' := [(cI, .int), (cJ, .long), (cZ, .boolean)]) [0, 1, 2] rfl
      exact W.vret hx hb hr (fun t ht hW => ⟨⟨g, rfl, (by unfold orU; rw [if_neg (by first | exact fun z => h17 z.1 | exact fun z => absurd z.2.1 (by omega) | exact fun z => h35 z.2.2.1 | exact fun z => z.2.2.2.1 h46 | exact fun z => h57 z.2.2.2.2)]), ⟨by rw [ht]; exact hP9, va_K.moved hW.alike hK9, hD9⟩⟩, hS.F ht⟩) hS.2.2 d_Mo_orderSection_60
    · have h26 := mt (nI_ltI (b := 19) (by omega) (by omega)).mpr h26
      refine lv_aload_n hx hb d_Mo_orderSection_29 rfl (lv_at hl 1 rfl) ?_
      refine va_get (D := D) (ci := 13) (v := .ref (r 15)) (C := R_Mo) (T := F_Mo) (N := 54) hx hb hts i_Mo hown hK hP 0 rfl rfl 15 (by decide) (hts _ wd_1103) (fun _ h9 => h9) rfl d_Mo_orderSection_30 ?_
      refine lv_iconst (v := 3) hx hb d_Mo_orderSection_33 (by decide) ?_
      refine z_iald hx hb hK hP 1 0 rfl rfl 3 rfl (by omega) (by omega) d_Mo_orderSection_34 ?_
      refine lv_if_ne (tgt := 60) hx hb d_Mo_orderSection_35 rfl (fun h35 => ?_) (fun h35 => ?_)
      · have hP9 := hP.sub (ws' := [(h, .inr (13, mO r th si (nI ln) lv (nI ng) pn pl rs)), (r 15, .inl (cI, 1024, .inl se)), (r 20, .inl (cI, 4, .inl g.nu)), (r 21, .inl (cI, 4, .inl g.pi)), (r 22, .inl (cI, 4, .inl g.vs)), (r 23, .inl (cI, 4, .inl g.cp)), (r 24, .inl (cI, 4, .inl g.sc)), (r 25, .inl (cZ, 4, .inl g.aw)), (r 26, .inl (cJ, 4, .inr (.inl g.nw))), (r 27, .inl (cI, 4, .inl g.wt)), (r 28, .inl (cI, 16, .inl g.ty)), (r 29, .inl (cI, 16, .inl g.sp)), (r 30, .inl (cJ, 24, .inr (.inl g.z.1))), (r 31, .inl (cI, 24, .inl g.z.2.1)), (r 32, .inl (cZ, 24, .inl g.z.2.2.1)), (r 33, .inl (cJ, 24, .inr (.inl g.z.2.2.2)))]) [0, 1, 2, 3, 4, 5, 6, 7, 8, 9, 10, 11, 12, 13, 14, 15] rfl
        have hD9 := hD.sub (ws' := [(h, .inr (13, mO r th si (nI ln) lv (nI ng) pn pl rs)), (r 15, .inl (cI, 1024, .inl se)), (r 20, .inl (cI, 4, .inl g.nu)), (r 21, .inl (cI, 4, .inl g.pi)), (r 22, .inl (cI, 4, .inl g.vs)), (r 23, .inl (cI, 4, .inl g.cp)), (r 24, .inl (cI, 4, .inl g.sc)), (r 25, .inl (cZ, 4, .inl g.aw)), (r 26, .inl (cJ, 4, .inr (.inl g.nw))), (r 27, .inl (cI, 4, .inl g.wt)), (r 28, .inl (cI, 16, .inl g.ty)), (r 29, .inl (cI, 16, .inl g.sp)), (r 30, .inl (cJ, 24, .inr (.inl g.z.1))), (r 31, .inl (cI, 24, .inl g.z.2.1)), (r 32, .inl (cZ, 24, .inl g.z.2.2.1)), (r 33, .inl (cJ, 24, .inr (.inl g.z.2.2.2)))]) [0, 1, 2, 3, 4, 5, 6, 7, 8, 9, 10, 11, 12, 13, 14, 15] (by decide) rfl
        have hK9 := hK.sub (tys' := [(cI, .int), (cJ, .long), (cZ, .boolean)]) [0, 1, 2] rfl
        exact W.vret hx hb hr (fun t ht hW => ⟨⟨g, rfl, (by unfold orU; rw [if_neg (by first | exact fun z => h17 z.1 | exact fun z => absurd z.2.1 (by omega) | exact fun z => h35 z.2.2.1 | exact fun z => z.2.2.2.1 h46 | exact fun z => h57 z.2.2.2.2)]), ⟨by rw [ht]; exact hP9, va_K.moved hW.alike hK9, hD9⟩⟩, hS.F ht⟩) hS.2.2 d_Mo_orderSection_60
      · refine lv_aload_n hx hb d_Mo_orderSection_38 rfl (lv_at hl 1 rfl) ?_
        refine va_get (D := D) (ci := 13) (v := .ref (r 15)) (C := R_Mo) (T := F_Mo) (N := 54) hx hb hts i_Mo hown hK hP 0 rfl rfl 15 (by decide) (hts _ wd_1103) (fun _ h9 => h9) rfl d_Mo_orderSection_39 ?_
        refine lv_iconst (v := 4) hx hb d_Mo_orderSection_42 (by decide) ?_
        refine z_iald hx hb hK hP 1 0 rfl rfl 4 rfl (by omega) (by omega) d_Mo_orderSection_43 ?_
        refine lv_bipush (v := 127) hx hb d_Mo_orderSection_44 (by decide) ?_
        refine lv_icmp_gt (tgt := 60) hx hb d_Mo_orderSection_46 rfl (fun h46 => ?_) (fun h46 => ?_)
        · have hP9 := hP.sub (ws' := [(h, .inr (13, mO r th si (nI ln) lv (nI ng) pn pl rs)), (r 15, .inl (cI, 1024, .inl se)), (r 20, .inl (cI, 4, .inl g.nu)), (r 21, .inl (cI, 4, .inl g.pi)), (r 22, .inl (cI, 4, .inl g.vs)), (r 23, .inl (cI, 4, .inl g.cp)), (r 24, .inl (cI, 4, .inl g.sc)), (r 25, .inl (cZ, 4, .inl g.aw)), (r 26, .inl (cJ, 4, .inr (.inl g.nw))), (r 27, .inl (cI, 4, .inl g.wt)), (r 28, .inl (cI, 16, .inl g.ty)), (r 29, .inl (cI, 16, .inl g.sp)), (r 30, .inl (cJ, 24, .inr (.inl g.z.1))), (r 31, .inl (cI, 24, .inl g.z.2.1)), (r 32, .inl (cZ, 24, .inl g.z.2.2.1)), (r 33, .inl (cJ, 24, .inr (.inl g.z.2.2.2)))]) [0, 1, 2, 3, 4, 5, 6, 7, 8, 9, 10, 11, 12, 13, 14, 15] rfl
          have hD9 := hD.sub (ws' := [(h, .inr (13, mO r th si (nI ln) lv (nI ng) pn pl rs)), (r 15, .inl (cI, 1024, .inl se)), (r 20, .inl (cI, 4, .inl g.nu)), (r 21, .inl (cI, 4, .inl g.pi)), (r 22, .inl (cI, 4, .inl g.vs)), (r 23, .inl (cI, 4, .inl g.cp)), (r 24, .inl (cI, 4, .inl g.sc)), (r 25, .inl (cZ, 4, .inl g.aw)), (r 26, .inl (cJ, 4, .inr (.inl g.nw))), (r 27, .inl (cI, 4, .inl g.wt)), (r 28, .inl (cI, 16, .inl g.ty)), (r 29, .inl (cI, 16, .inl g.sp)), (r 30, .inl (cJ, 24, .inr (.inl g.z.1))), (r 31, .inl (cI, 24, .inl g.z.2.1)), (r 32, .inl (cZ, 24, .inl g.z.2.2.1)), (r 33, .inl (cJ, 24, .inr (.inl g.z.2.2.2)))]) [0, 1, 2, 3, 4, 5, 6, 7, 8, 9, 10, 11, 12, 13, 14, 15] (by decide) rfl
          have hK9 := hK.sub (tys' := [(cI, .int), (cJ, .long), (cZ, .boolean)]) [0, 1, 2] rfl
          exact W.vret hx hb hr (fun t ht hW => ⟨⟨g, rfl, (by unfold orU; rw [if_neg (by first | exact fun z => h17 z.1 | exact fun z => absurd z.2.1 (by omega) | exact fun z => h35 z.2.2.1 | exact fun z => z.2.2.2.1 h46 | exact fun z => h57 z.2.2.2.2)]), ⟨by rw [ht]; exact hP9, va_K.moved hW.alike hK9, hD9⟩⟩, hS.F ht⟩) hS.2.2 d_Mo_orderSection_60
        · refine lv_aload_n hx hb d_Mo_orderSection_49 rfl (lv_at hl 1 rfl) ?_
          refine va_get (D := D) (ci := 13) (v := .ref (r 15)) (C := R_Mo) (T := F_Mo) (N := 54) hx hb hts i_Mo hown hK hP 0 rfl rfl 15 (by decide) (hts _ wd_1103) (fun _ h9 => h9) rfl d_Mo_orderSection_50 ?_
          refine lv_bipush (v := 13) hx hb d_Mo_orderSection_53 (by decide) ?_
          refine z_iald hx hb hK hP 1 0 rfl rfl 13 rfl (by omega) (by omega) d_Mo_orderSection_55 ?_
          refine lv_iconst (v := 5) hx hb d_Mo_orderSection_56 (by decide) ?_
          refine lv_icmp_eq (tgt := 61) hx hb d_Mo_orderSection_57 rfl (fun h57 => ?_) (fun h57 => ?_)
          · have hH : orH se ln := ⟨h17, by omega, h35, h46, h57⟩
            have hk : k < 4 := by omega
            have haL := orA_le se
            have hlL := orL_le se
            refine lv_aload_n hx hb d_Mo_orderSection_61 rfl (lv_at hl 1 rfl) ?_
            refine va_get (D := D) (ci := 13) (v := .ref (r 15)) (C := R_Mo) (T := F_Mo) (N := 54) hx hb hts i_Mo hown hK hP 0 rfl rfl 15 (by decide) (hts _ wd_1103) (fun _ h9 => h9) rfl d_Mo_orderSection_62 ?_
            refine lv_bipush (v := 39) hx hb d_Mo_orderSection_65 (by decide) ?_
            refine lv_bipush (v := 33) hx hb d_Mo_orderSection_67 (by decide) ?_
            have hPc := hP.sub (ws' := [((r 15), .inl (cI, 1024, .inl se))]) [1] rfl
            have hKc := hK.sub (tys' := [(cI, .int)]) [0] rfl
            refine z_cl (va_runS (As := [.ref (r 15), .int (nI 39), .int (nI 33)]) (rest := []) ⟨hx, hb, hml, hown, hts⟩ (c_Mo_bitsOf l D cI (r 15) 1024 se 39 33 (by omega) (by omega)) (z_cS hN wd_1296 wd_67 wd_1294 hd_Mo_bitsOf rfl rfl ⟨Nat.le_of_ble_eq_true rfl, Nat.le_of_ble_eq_true rfl⟩ wd_1295) (z_preS hPc hKc hN) rfl rfl hl.1 rfl (lv_room (Nat.le_of_ble_eq_true rfl)) d_Mo_orderSection_69 ⟨Nat.le_of_ble_eq_true rfl, Nat.le_of_ble_eq_true rfl⟩) (fun r69 e69 => ?_)
            subst e69
            refine lv_lstore_n (lv' := [(3, .long (mb_l se 39 33)), (2, .int (nI k)), (0, .ref h), (1, .int v)]) hx hb d_Mo_orderSection_72 rfl hl (by decide) rfl (fun ls hl => ?_)
            refine lv_aload_n hx hb d_Mo_orderSection_73 rfl (lv_at hl 2 rfl) ?_
            refine va_get (D := D) (ci := 13) (v := .ref (r 15)) (C := R_Mo) (T := F_Mo) (N := 54) hx hb hts i_Mo hown hK hP 0 rfl rfl 15 (by decide) (hts _ wd_1103) (fun _ h9 => h9) rfl d_Mo_orderSection_74 ?_
            refine lv_bipush (v := 112) hx hb d_Mo_orderSection_77 (by decide) ?_
            refine lv_bipush (v := 32) hx hb d_Mo_orderSection_79 (by decide) ?_
            have hPc := hP.sub (ws' := [((r 15), .inl (cI, 1024, .inl se))]) [1] rfl
            have hKc := hK.sub (tys' := [(cI, .int)]) [0] rfl
            refine z_cl (va_runS (As := [.ref (r 15), .int (nI 112), .int (nI 32)]) (rest := []) ⟨hx, hb, hml, hown, hts⟩ (c_Mo_bitsOf l D cI (r 15) 1024 se 112 32 (by omega) (by omega)) (z_cS hN wd_1296 wd_67 wd_1294 hd_Mo_bitsOf rfl rfl ⟨Nat.le_of_ble_eq_true rfl, Nat.le_of_ble_eq_true rfl⟩ wd_1295) (z_preS hPc hKc hN) rfl rfl hl.1 rfl (lv_room (Nat.le_of_ble_eq_true rfl)) d_Mo_orderSection_81 ⟨Nat.le_of_ble_eq_true rfl, Nat.le_of_ble_eq_true rfl⟩) (fun r81 e81 => ?_)
            subst e81
            refine lv_l2i (v := (mb_l se 112 32).toInt32) hx hb d_Mo_orderSection_84 rfl ?_
            refine z_topi (w := orN se) rfl ?_
            refine lv_istore (lv' := [(5, .int (orN se)), (3, .long (mb_l se 39 33)), (2, .int (nI k)), (0, .ref h), (1, .int v)]) hx hb d_Mo_orderSection_85 hl (by decide) rfl (fun ls hl => ?_)
            refine lv_aload_n hx hb d_Mo_orderSection_87 rfl (lv_at hl 3 rfl) ?_
            refine va_get (D := D) (ci := 13) (v := .ref (r 15)) (C := R_Mo) (T := F_Mo) (N := 54) hx hb hts i_Mo hown hK hP 0 rfl rfl 15 (by decide) (hts _ wd_1103) (fun _ h9 => h9) rfl d_Mo_orderSection_88 ?_
            refine lv_bipush (v := 18) hx hb d_Mo_orderSection_91 (by decide) ?_
            refine z_iald hx hb hK hP 1 0 rfl rfl 18 rfl (by omega) (by omega) d_Mo_orderSection_93 ?_
            refine lv_bipush (v := 127) hx hb d_Mo_orderSection_94 (by decide) ?_
            refine lv_icmp_le (tgt := 160) hx hb d_Mo_orderSection_96 rfl (fun h96 => ?_) (fun h96 => ?_)
            · have h96 : ¬ 127 < se 18 := Int32.not_lt.mpr h96
              refine lv_aload_n hx hb d_Mo_orderSection_160 rfl (lv_at hl 3 rfl) ?_
              refine va_get (D := D) (ci := 13) (v := .int (nI ln)) (C := R_Mo) (T := F_Mo) (N := 54) hx hb hts i_Mo hown hK hP 0 rfl rfl 16 (by decide) (hts _ wd_1104) (fun _ h9 => h9) rfl d_Mo_orderSection_161 ?_
              refine lv_bipush (v := 21) hx hb d_Mo_orderSection_164 (by decide) ?_
              refine lv_icmp_ge (tgt := 170) hx hb d_Mo_orderSection_166 rfl (fun h166 => ?_) (fun h166 => ?_)
              · have h166 : ¬ ln < 21 := Nat.not_lt.mpr ((nI_leI (a := 21) (by omega) (by omega)).mp h166)
                refine lv_aload_n hx hb d_Mo_orderSection_170 rfl (lv_at hl 3 rfl) ?_
                refine va_get (D := D) (ci := 13) (v := .ref (r 15)) (C := R_Mo) (T := F_Mo) (N := 54) hx hb hts i_Mo hown hK hP 0 rfl rfl 15 (by decide) (hts _ wd_1103) (fun _ h9 => h9) rfl d_Mo_orderSection_171 ?_
                refine lv_bipush (v := 19) hx hb d_Mo_orderSection_174 (by decide) ?_
                refine z_iald hx hb hK hP 1 0 rfl rfl 19 rfl (by omega) (by omega) d_Mo_orderSection_176 ?_
                refine lv_bipush (v := 127) hx hb d_Mo_orderSection_177 (by decide) ?_
                suffices key179 : W p l e ({ frames := 3, cells := 0, slots := 0, locals := 82 }) s m ([.ref h, .int v]).toArray below meth cd s.heap [] 0 0 (MQ below (va_Qv (fun (u : PG) => u = orU g se ln k w) (fun (u : PG) t => zW D (A) [(h, .inr (13, mO r th si (nI ln) lv (nI ng) pn pl rs)), (r 15, .inl (cI, 1024, .inl se)), (r 20, .inl (cI, 4, .inl u.nu)), (r 21, .inl (cI, 4, .inl u.pi)), (r 22, .inl (cI, 4, .inl u.vs)), (r 23, .inl (cI, 4, .inl u.cp)), (r 24, .inl (cI, 4, .inl u.sc)), (r 25, .inl (cZ, 4, .inl u.aw)), (r 26, .inl (cJ, 4, .inr (.inl u.nw))), (r 27, .inl (cI, 4, .inl u.wt)), (r 28, .inl (cI, 16, .inl u.ty)), (r 29, .inl (cI, 16, .inl u.sp)), (r 30, .inl (cJ, 24, .inr (.inl u.z.1))), (r 31, .inl (cI, 24, .inl u.z.2.1)), (r 32, .inl (cZ, 24, .inl u.z.2.2.1)), (r 33, .inl (cJ, 24, .inr (.inl u.z.2.2.2)))] [(cI, .int), (cJ, .long), (cZ, .boolean)] t) (A)) ([.ref h, .int v]).toArray s 0 0 (A)) (F0 m 187 ls [.int (orAw se)]) by
                  refine lv_icmp_le (tgt := 186) hx hb d_Mo_orderSection_179 rfl (fun h179 => ?_) (fun h179 => ?_)
                  · refine lv_iconst (v := 0) hx hb d_Mo_orderSection_186 (by decide) ?_
                    refine z_topi (w := (orAw se)) (by unfold orAw; rw [if_neg (Int32.not_lt.mpr h179)]) ?_
                    exact key179
                  · refine lv_iconst (v := 1) hx hb d_Mo_orderSection_182 (by decide) ?_
                    refine lv_goto (tgt := 187) hx hb d_Mo_orderSection_183 rfl ?_
                    refine z_topi (w := (orAw se)) (by unfold orAw; rw [if_pos (Int32.not_le.mp h179)]) ?_
                    exact key179
                refine lv_istore (lv' := [(6, .int (orAw se)), (5, .int (orN se)), (3, .long (mb_l se 39 33)), (2, .int (nI k)), (0, .ref h), (1, .int v)]) hx hb d_Mo_orderSection_187 hl (by decide) rfl (fun ls hl => ?_)
                refine lv_aload_n hx hb d_Mo_orderSection_189 rfl (lv_at hl 4 rfl) ?_
                refine va_get (D := D) (ci := 13) (v := .ref (r 15)) (C := R_Mo) (T := F_Mo) (N := 54) hx hb hts i_Mo hown hK hP 0 rfl rfl 15 (by decide) (hts _ wd_1103) (fun _ h9 => h9) rfl d_Mo_orderSection_190 ?_
                refine lv_bipush (v := 19) hx hb d_Mo_orderSection_193 (by decide) ?_
                refine z_iald hx hb hK hP 1 0 rfl rfl 19 rfl (by omega) (by omega) d_Mo_orderSection_195 ?_
                refine lv_bipush (v := 6) hx hb d_Mo_orderSection_196 (by decide) ?_
                refine lv_ishr hx hb d_Mo_orderSection_198 ?_
                refine lv_iconst (v := 1) hx hb d_Mo_orderSection_199 (by decide) ?_
                refine lv_iand hx hb d_Mo_orderSection_200 ?_
                refine lv_iconst (v := 1) hx hb d_Mo_orderSection_201 (by decide) ?_
                suffices key202 : W p l e ({ frames := 3, cells := 0, slots := 0, locals := 82 }) s m ([.ref h, .int v]).toArray below meth cd s.heap [] 0 0 (MQ below (va_Qv (fun (u : PG) => u = orU g se ln k w) (fun (u : PG) t => zW D (A) [(h, .inr (13, mO r th si (nI ln) lv (nI ng) pn pl rs)), (r 15, .inl (cI, 1024, .inl se)), (r 20, .inl (cI, 4, .inl u.nu)), (r 21, .inl (cI, 4, .inl u.pi)), (r 22, .inl (cI, 4, .inl u.vs)), (r 23, .inl (cI, 4, .inl u.cp)), (r 24, .inl (cI, 4, .inl u.sc)), (r 25, .inl (cZ, 4, .inl u.aw)), (r 26, .inl (cJ, 4, .inr (.inl u.nw))), (r 27, .inl (cI, 4, .inl u.wt)), (r 28, .inl (cI, 16, .inl u.ty)), (r 29, .inl (cI, 16, .inl u.sp)), (r 30, .inl (cJ, 24, .inr (.inl u.z.1))), (r 31, .inl (cI, 24, .inl u.z.2.1)), (r 32, .inl (cZ, 24, .inl u.z.2.2.1)), (r 33, .inl (cJ, 24, .inr (.inl u.z.2.2.2)))] [(cI, .int), (cJ, .long), (cZ, .boolean)] t) (A)) ([.ref h, .int v]).toArray s 0 0 (A)) (F0 m 210 ls [.int (if orWh se then 1 else 0)]) by
                  refine lv_icmp_ne (tgt := 209) hx hb d_Mo_orderSection_202 rfl (fun h202 => ?_) (fun h202 => ?_)
                  · refine lv_iconst (v := 0) hx hb d_Mo_orderSection_209 (by decide) ?_
                    refine z_topi (w := (if orWh se then 1 else 0)) ((if_neg h202).symm) ?_
                    exact key202
                  · refine lv_iconst (v := 1) hx hb d_Mo_orderSection_205 (by decide) ?_
                    refine lv_goto (tgt := 210) hx hb d_Mo_orderSection_206 rfl ?_
                    refine z_topi (w := (if orWh se then 1 else 0)) ((if_pos h202).symm) ?_
                    exact key202
                refine lv_istore (lv' := [(7, .int (if orWh se then 1 else 0)), (6, .int (orAw se)), (5, .int (orN se)), (3, .long (mb_l se 39 33)), (2, .int (nI k)), (0, .ref h), (1, .int v)]) hx hb d_Mo_orderSection_210 hl (by decide) rfl (fun ls hl => ?_)
                refine lv_aload_n hx hb d_Mo_orderSection_212 rfl (lv_at hl 5 rfl) ?_
                refine va_get (D := D) (ci := 13) (v := .ref (r 15)) (C := R_Mo) (T := F_Mo) (N := 54) hx hb hts i_Mo hown hK hP 0 rfl rfl 15 (by decide) (hts _ wd_1103) (fun _ h9 => h9) rfl d_Mo_orderSection_213 ?_
                refine lv_bipush (v := 19) hx hb d_Mo_orderSection_216 (by decide) ?_
                refine z_iald hx hb hK hP 1 0 rfl rfl 19 rfl (by omega) (by omega) d_Mo_orderSection_218 ?_
                refine lv_iconst (v := 5) hx hb d_Mo_orderSection_219 (by decide) ?_
                refine lv_ishr hx hb d_Mo_orderSection_220 ?_
                refine lv_iconst (v := 1) hx hb d_Mo_orderSection_221 (by decide) ?_
                refine lv_iand hx hb d_Mo_orderSection_222 ?_
                refine lv_iconst (v := 1) hx hb d_Mo_orderSection_223 (by decide) ?_
                suffices key224 : W p l e ({ frames := 3, cells := 0, slots := 0, locals := 82 }) s m ([.ref h, .int v]).toArray below meth cd s.heap [] 0 0 (MQ below (va_Qv (fun (u : PG) => u = orU g se ln k w) (fun (u : PG) t => zW D (A) [(h, .inr (13, mO r th si (nI ln) lv (nI ng) pn pl rs)), (r 15, .inl (cI, 1024, .inl se)), (r 20, .inl (cI, 4, .inl u.nu)), (r 21, .inl (cI, 4, .inl u.pi)), (r 22, .inl (cI, 4, .inl u.vs)), (r 23, .inl (cI, 4, .inl u.cp)), (r 24, .inl (cI, 4, .inl u.sc)), (r 25, .inl (cZ, 4, .inl u.aw)), (r 26, .inl (cJ, 4, .inr (.inl u.nw))), (r 27, .inl (cI, 4, .inl u.wt)), (r 28, .inl (cI, 16, .inl u.ty)), (r 29, .inl (cI, 16, .inl u.sp)), (r 30, .inl (cJ, 24, .inr (.inl u.z.1))), (r 31, .inl (cI, 24, .inl u.z.2.1)), (r 32, .inl (cZ, 24, .inl u.z.2.2.1)), (r 33, .inl (cJ, 24, .inr (.inl u.z.2.2.2)))] [(cI, .int), (cJ, .long), (cZ, .boolean)] t) (A)) ([.ref h, .int v]).toArray s 0 0 (A)) (F0 m 232 ls [.int (if orLo se then 1 else 0)]) by
                  refine lv_icmp_ne (tgt := 231) hx hb d_Mo_orderSection_224 rfl (fun h224 => ?_) (fun h224 => ?_)
                  · refine lv_iconst (v := 0) hx hb d_Mo_orderSection_231 (by decide) ?_
                    refine z_topi (w := (if orLo se then 1 else 0)) ((if_neg h224).symm) ?_
                    exact key224
                  · refine lv_iconst (v := 1) hx hb d_Mo_orderSection_227 (by decide) ?_
                    refine lv_goto (tgt := 232) hx hb d_Mo_orderSection_228 rfl ?_
                    refine z_topi (w := (if orLo se then 1 else 0)) ((if_pos h224).symm) ?_
                    exact key224
                refine lv_istore (lv' := [(8, .int (if orLo se then 1 else 0)), (7, .int (if orWh se then 1 else 0)), (6, .int (orAw se)), (5, .int (orN se)), (3, .long (mb_l se 39 33)), (2, .int (nI k)), (0, .ref h), (1, .int v)]) hx hb d_Mo_orderSection_232 hl (by decide) rfl (fun ls hl => ?_)
                refine lv_aload_n hx hb d_Mo_orderSection_234 rfl (lv_at hl 6 rfl) ?_
                refine va_get (D := D) (ci := 13) (v := .ref (r 15)) (C := R_Mo) (T := F_Mo) (N := 54) hx hb hts i_Mo hown hK hP 0 rfl rfl 15 (by decide) (hts _ wd_1103) (fun _ h9 => h9) rfl d_Mo_orderSection_235 ?_
                refine lv_bipush (v := 19) hx hb d_Mo_orderSection_238 (by decide) ?_
                refine z_iald hx hb hK hP 1 0 rfl rfl 19 rfl (by omega) (by omega) d_Mo_orderSection_240 ?_
                refine lv_iconst (v := 4) hx hb d_Mo_orderSection_241 (by decide) ?_
                refine lv_ishr hx hb d_Mo_orderSection_242 ?_
                refine lv_iconst (v := 1) hx hb d_Mo_orderSection_243 (by decide) ?_
                refine lv_iand hx hb d_Mo_orderSection_244 ?_
                refine lv_iconst (v := 1) hx hb d_Mo_orderSection_245 (by decide) ?_
                suffices key246 : W p l e ({ frames := 3, cells := 0, slots := 0, locals := 82 }) s m ([.ref h, .int v]).toArray below meth cd s.heap [] 0 0 (MQ below (va_Qv (fun (u : PG) => u = orU g se ln k w) (fun (u : PG) t => zW D (A) [(h, .inr (13, mO r th si (nI ln) lv (nI ng) pn pl rs)), (r 15, .inl (cI, 1024, .inl se)), (r 20, .inl (cI, 4, .inl u.nu)), (r 21, .inl (cI, 4, .inl u.pi)), (r 22, .inl (cI, 4, .inl u.vs)), (r 23, .inl (cI, 4, .inl u.cp)), (r 24, .inl (cI, 4, .inl u.sc)), (r 25, .inl (cZ, 4, .inl u.aw)), (r 26, .inl (cJ, 4, .inr (.inl u.nw))), (r 27, .inl (cI, 4, .inl u.wt)), (r 28, .inl (cI, 16, .inl u.ty)), (r 29, .inl (cI, 16, .inl u.sp)), (r 30, .inl (cJ, 24, .inr (.inl u.z.1))), (r 31, .inl (cI, 24, .inl u.z.2.1)), (r 32, .inl (cZ, 24, .inl u.z.2.2.1)), (r 33, .inl (cJ, 24, .inr (.inl u.z.2.2.2)))] [(cI, .int), (cJ, .long), (cZ, .boolean)] t) (A)) ([.ref h, .int v]).toArray s 0 0 (A)) (F0 m 254 ls [.int (if orSo se then 1 else 0)]) by
                  refine lv_icmp_ne (tgt := 253) hx hb d_Mo_orderSection_246 rfl (fun h246 => ?_) (fun h246 => ?_)
                  · refine lv_iconst (v := 0) hx hb d_Mo_orderSection_253 (by decide) ?_
                    refine z_topi (w := (if orSo se then 1 else 0)) ((if_neg h246).symm) ?_
                    exact key246
                  · refine lv_iconst (v := 1) hx hb d_Mo_orderSection_249 (by decide) ?_
                    refine lv_goto (tgt := 254) hx hb d_Mo_orderSection_250 rfl ?_
                    refine z_topi (w := (if orSo se then 1 else 0)) ((if_pos h246).symm) ?_
                    exact key246
                refine lv_istore (lv' := [(9, .int (if orSo se then 1 else 0)), (8, .int (if orLo se then 1 else 0)), (7, .int (if orWh se then 1 else 0)), (6, .int (orAw se)), (5, .int (orN se)), (3, .long (mb_l se 39 33)), (2, .int (nI k)), (0, .ref h), (1, .int v)]) hx hb d_Mo_orderSection_254 hl (by decide) rfl (fun ls hl => ?_)
                refine lv_iload hx hb d_Mo_orderSection_256 (lv_at hl 0 rfl) ?_
                suffices key258 : W p l e ({ frames := 3, cells := 0, slots := 0, locals := 82 }) s m ([.ref h, .int v]).toArray below meth cd s.heap [] 0 0 (MQ below (va_Qv (fun (u : PG) => u = orU g se ln k w) (fun (u : PG) t => zW D (A) [(h, .inr (13, mO r th si (nI ln) lv (nI ng) pn pl rs)), (r 15, .inl (cI, 1024, .inl se)), (r 20, .inl (cI, 4, .inl u.nu)), (r 21, .inl (cI, 4, .inl u.pi)), (r 22, .inl (cI, 4, .inl u.vs)), (r 23, .inl (cI, 4, .inl u.cp)), (r 24, .inl (cI, 4, .inl u.sc)), (r 25, .inl (cZ, 4, .inl u.aw)), (r 26, .inl (cJ, 4, .inr (.inl u.nw))), (r 27, .inl (cI, 4, .inl u.wt)), (r 28, .inl (cI, 16, .inl u.ty)), (r 29, .inl (cI, 16, .inl u.sp)), (r 30, .inl (cJ, 24, .inr (.inl u.z.1))), (r 31, .inl (cI, 24, .inl u.z.2.1)), (r 32, .inl (cZ, 24, .inl u.z.2.2.1)), (r 33, .inl (cJ, 24, .inr (.inl u.z.2.2.2)))] [(cI, .int), (cJ, .long), (cZ, .boolean)] t) (A)) ([.ref h, .int v]).toArray s 0 0 (A)) (F0 m 278 ls [.int (if orTi se then 1 else 0)]) by
                  refine lv_if_ne (tgt := 277) hx hb d_Mo_orderSection_258 rfl (fun h258 => ?_) (fun h258 => ?_)
                  · refine lv_iconst (v := 0) hx hb d_Mo_orderSection_277 (by decide) ?_
                    refine z_topi (w := (if orTi se then 1 else 0)) ((if_neg (fun z => z.1 (mo_1 h258))).symm) ?_
                    exact key258
                  · refine lv_aload_n hx hb d_Mo_orderSection_261 rfl (lv_at hl 7 rfl) ?_
                    refine va_get (D := D) (ci := 13) (v := .ref (r 15)) (C := R_Mo) (T := F_Mo) (N := 54) hx hb hts i_Mo hown hK hP 0 rfl rfl 15 (by decide) (hts _ wd_1103) (fun _ h9 => h9) rfl d_Mo_orderSection_262 ?_
                    refine lv_bipush (v := 20) hx hb d_Mo_orderSection_265 (by decide) ?_
                    refine z_iald hx hb hK hP 1 0 rfl rfl 20 rfl (by omega) (by omega) d_Mo_orderSection_267 ?_
                    refine lv_bipush (v := 127) hx hb d_Mo_orderSection_268 (by decide) ?_
                    refine lv_icmp_le (tgt := 277) hx hb d_Mo_orderSection_270 rfl (fun h270 => ?_) (fun h270 => ?_)
                    · refine lv_iconst (v := 0) hx hb d_Mo_orderSection_277 (by decide) ?_
                      refine z_topi (w := (if orTi se then 1 else 0)) (by first | exact (if_neg (fun z => Int32.not_lt.mpr h270 z.2)).symm | exact (if_pos ⟨mo_0 h258, Int32.not_le.mp h270⟩).symm) ?_
                      exact key258
                    · refine lv_iconst (v := 1) hx hb d_Mo_orderSection_273 (by decide) ?_
                      refine lv_goto (tgt := 278) hx hb d_Mo_orderSection_274 rfl ?_
                      refine z_topi (w := (if orTi se then 1 else 0)) (by first | exact (if_neg (fun z => Int32.not_lt.mpr h270 z.2)).symm | exact (if_pos ⟨mo_0 h258, Int32.not_le.mp h270⟩).symm) ?_
                      exact key258
                refine lv_istore (lv' := [(10, .int (if orTi se then 1 else 0)), (9, .int (if orSo se then 1 else 0)), (8, .int (if orLo se then 1 else 0)), (7, .int (if orWh se then 1 else 0)), (6, .int (orAw se)), (5, .int (orN se)), (3, .long (mb_l se 39 33)), (2, .int (nI k)), (0, .ref h), (1, .int v)]) hx hb d_Mo_orderSection_278 hl (by decide) rfl (fun ls hl => ?_)
                refine lv_iload hx hb d_Mo_orderSection_280 (lv_at hl 1 rfl) ?_
                suffices key282 : W p l e ({ frames := 3, cells := 0, slots := 0, locals := 82 }) s m ([.ref h, .int v]).toArray below meth cd s.heap [] 0 0 (MQ below (va_Qv (fun (u : PG) => u = orU g se ln k w) (fun (u : PG) t => zW D (A) [(h, .inr (13, mO r th si (nI ln) lv (nI ng) pn pl rs)), (r 15, .inl (cI, 1024, .inl se)), (r 20, .inl (cI, 4, .inl u.nu)), (r 21, .inl (cI, 4, .inl u.pi)), (r 22, .inl (cI, 4, .inl u.vs)), (r 23, .inl (cI, 4, .inl u.cp)), (r 24, .inl (cI, 4, .inl u.sc)), (r 25, .inl (cZ, 4, .inl u.aw)), (r 26, .inl (cJ, 4, .inr (.inl u.nw))), (r 27, .inl (cI, 4, .inl u.wt)), (r 28, .inl (cI, 16, .inl u.ty)), (r 29, .inl (cI, 16, .inl u.sp)), (r 30, .inl (cJ, 24, .inr (.inl u.z.1))), (r 31, .inl (cI, 24, .inl u.z.2.1)), (r 32, .inl (cZ, 24, .inl u.z.2.2.1)), (r 33, .inl (cJ, 24, .inr (.inl u.z.2.2.2)))] [(cI, .int), (cJ, .long), (cZ, .boolean)] t) (A)) ([.ref h, .int v]).toArray s 0 0 (A)) (F0 m 302 ls [.int (nI (orA se))]) by
                  refine lv_if_eq (tgt := 290) hx hb d_Mo_orderSection_282 rfl (fun h282 => ?_) (fun h282 => ?_)
                  · refine lv_iload hx hb d_Mo_orderSection_290 (lv_at hl 0 rfl) ?_
                    refine lv_if_eq (tgt := 300) hx hb d_Mo_orderSection_292 rfl (fun h292 => ?_) (fun h292 => ?_)
                    · refine lv_bipush (v := 21) hx hb d_Mo_orderSection_300 (by decide) ?_
                      refine z_topi (w := (nI (orA se))) (by unfold orA; first | (rw [if_neg (mo_0 h282), if_neg (mo_0 h292)]; rfl) | (rw [if_neg (mo_0 h282), if_pos (mo_1 h292)]; rfl)) ?_
                      exact key282
                    · refine lv_bipush (v := 25) hx hb d_Mo_orderSection_295 (by decide) ?_
                      refine lv_goto (tgt := 302) hx hb d_Mo_orderSection_297 rfl ?_
                      refine z_topi (w := (nI (orA se))) (by unfold orA; first | (rw [if_neg (mo_0 h282), if_neg (mo_0 h292)]; rfl) | (rw [if_neg (mo_0 h282), if_pos (mo_1 h292)]; rfl)) ?_
                      exact key282
                  · refine lv_bipush (v := 20) hx hb d_Mo_orderSection_285 (by decide) ?_
                    refine lv_goto (tgt := 302) hx hb d_Mo_orderSection_287 rfl ?_
                    refine z_topi (w := (nI (orA se))) (by unfold orA; rw [if_pos (mo_1 h282)]; rfl) ?_
                    exact key282
                refine lv_istore (lv' := [(11, .int (nI (orA se))), (10, .int (if orTi se then 1 else 0)), (9, .int (if orSo se then 1 else 0)), (8, .int (if orLo se then 1 else 0)), (7, .int (if orWh se then 1 else 0)), (6, .int (orAw se)), (5, .int (orN se)), (3, .long (mb_l se 39 33)), (2, .int (nI k)), (0, .ref h), (1, .int v)]) hx hb d_Mo_orderSection_302 hl (by decide) rfl (fun ls hl => ?_)
                refine lv_iload hx hb d_Mo_orderSection_304 (lv_at hl 0 rfl) ?_
                refine lv_iload hx hb d_Mo_orderSection_306 (lv_at hl 3 rfl) ?_
                suffices key308 : W p l e ({ frames := 3, cells := 0, slots := 0, locals := 82 }) s m ([.ref h, .int v]).toArray below meth cd s.heap [] 0 0 (MQ below (va_Qv (fun (u : PG) => u = orU g se ln k w) (fun (u : PG) t => zW D (A) [(h, .inr (13, mO r th si (nI ln) lv (nI ng) pn pl rs)), (r 15, .inl (cI, 1024, .inl se)), (r 20, .inl (cI, 4, .inl u.nu)), (r 21, .inl (cI, 4, .inl u.pi)), (r 22, .inl (cI, 4, .inl u.vs)), (r 23, .inl (cI, 4, .inl u.cp)), (r 24, .inl (cI, 4, .inl u.sc)), (r 25, .inl (cZ, 4, .inl u.aw)), (r 26, .inl (cJ, 4, .inr (.inl u.nw))), (r 27, .inl (cI, 4, .inl u.wt)), (r 28, .inl (cI, 16, .inl u.ty)), (r 29, .inl (cI, 16, .inl u.sp)), (r 30, .inl (cJ, 24, .inr (.inl u.z.1))), (r 31, .inl (cI, 24, .inl u.z.2.1)), (r 32, .inl (cZ, 24, .inl u.z.2.2.1)), (r 33, .inl (cJ, 24, .inr (.inl u.z.2.2.2)))] [(cI, .int), (cJ, .long), (cZ, .boolean)] t) (A)) ([.ref h, .int v]).toArray s 0 0 (A)) (F0 m 316 ls [.int (nI (orL se)), .int (nI (orA se))]) by
                  refine lv_if_eq (tgt := 315) hx hb d_Mo_orderSection_308 rfl (fun h308 => ?_) (fun h308 => ?_)
                  · refine lv_iconst (v := 0) hx hb d_Mo_orderSection_315 (by decide) ?_
                    refine z_topi (w := (nI (orL se))) (by unfold orL; rw [if_neg (mo_0 h308)]; rfl) ?_
                    exact key308
                  · refine lv_iconst (v := 5) hx hb d_Mo_orderSection_311 (by decide) ?_
                    refine lv_goto (tgt := 316) hx hb d_Mo_orderSection_312 rfl ?_
                    refine z_topi (w := (nI (orL se))) (by unfold orL; rw [if_pos (mo_1 h308)]; rfl) ?_
                    exact key308
                refine lv_iadd hx hb d_Mo_orderSection_316 ?_
                refine z_topi (w := nI (orA se + orL se)) (nI_add _ _) ?_
                refine lv_iconst (v := 4) hx hb d_Mo_orderSection_317 (by decide) ?_
                refine lv_iadd hx hb d_Mo_orderSection_318 ?_
                refine z_topi (w := nI (orA se + orL se + 4)) (nI_add _ 4) ?_
                refine lv_istore (lv' := [(12, .int (nI (orA se + orL se + 4))), (11, .int (nI (orA se))), (10, .int (if orTi se then 1 else 0)), (9, .int (if orSo se then 1 else 0)), (8, .int (if orLo se then 1 else 0)), (7, .int (if orWh se then 1 else 0)), (6, .int (orAw se)), (5, .int (orN se)), (3, .long (mb_l se 39 33)), (2, .int (nI k)), (0, .ref h), (1, .int v)]) hx hb d_Mo_orderSection_319 hl (by decide) rfl (fun ls hl => ?_)
                refine lv_iload hx hb d_Mo_orderSection_321 (lv_at hl 5 rfl) ?_
                refine lv_if_eq (tgt := 335) hx hb d_Mo_orderSection_323 rfl (fun h323 => ?_) (fun h323 => ?_)
                · have h323 := mo_0 h323
                  have hP9 := hP.sub (ws' := [(h, .inr (13, mO r th si (nI ln) lv (nI ng) pn pl rs)), (r 15, .inl (cI, 1024, .inl se)), (r 20, .inl (cI, 4, .inl g.nu)), (r 21, .inl (cI, 4, .inl g.pi)), (r 22, .inl (cI, 4, .inl g.vs)), (r 23, .inl (cI, 4, .inl g.cp)), (r 24, .inl (cI, 4, .inl g.sc)), (r 25, .inl (cZ, 4, .inl g.aw)), (r 26, .inl (cJ, 4, .inr (.inl g.nw))), (r 27, .inl (cI, 4, .inl g.wt)), (r 28, .inl (cI, 16, .inl g.ty)), (r 29, .inl (cI, 16, .inl g.sp)), (r 30, .inl (cJ, 24, .inr (.inl g.z.1))), (r 31, .inl (cI, 24, .inl g.z.2.1)), (r 32, .inl (cZ, 24, .inl g.z.2.2.1)), (r 33, .inl (cJ, 24, .inr (.inl g.z.2.2.2)))]) [0, 1, 2, 3, 4, 5, 6, 7, 8, 9, 10, 11, 12, 13, 14, 15] rfl
                  have hD9 := hD.sub (ws' := [(h, .inr (13, mO r th si (nI ln) lv (nI ng) pn pl rs)), (r 15, .inl (cI, 1024, .inl se)), (r 20, .inl (cI, 4, .inl g.nu)), (r 21, .inl (cI, 4, .inl g.pi)), (r 22, .inl (cI, 4, .inl g.vs)), (r 23, .inl (cI, 4, .inl g.cp)), (r 24, .inl (cI, 4, .inl g.sc)), (r 25, .inl (cZ, 4, .inl g.aw)), (r 26, .inl (cJ, 4, .inr (.inl g.nw))), (r 27, .inl (cI, 4, .inl g.wt)), (r 28, .inl (cI, 16, .inl g.ty)), (r 29, .inl (cI, 16, .inl g.sp)), (r 30, .inl (cJ, 24, .inr (.inl g.z.1))), (r 31, .inl (cI, 24, .inl g.z.2.1)), (r 32, .inl (cZ, 24, .inl g.z.2.2.1)), (r 33, .inl (cJ, 24, .inr (.inl g.z.2.2.2)))]) [0, 1, 2, 3, 4, 5, 6, 7, 8, 9, 10, 11, 12, 13, 14, 15] (by decide) rfl
                  have hK9 := hK.sub (tys' := [(cI, .int), (cJ, .long), (cZ, .boolean)]) [0, 1, 2] rfl
                  exact W.vret hx hb hr (fun t ht hW => ⟨⟨g, rfl, (by unfold orU; rw [if_pos hH, if_neg h96, if_neg h166, if_neg (by first | exact fun z => h323 z.1 | exact fun z => h332 z.2)]), ⟨by rw [ht]; exact hP9, va_K.moved hW.alike hK9, hD9⟩⟩, hS.F ht⟩) hS.2.2 d_Mo_orderSection_335
                · have h323 := mo_1 h323
                  refine lv_aload_n hx hb d_Mo_orderSection_326 rfl (lv_at hl 10 rfl) ?_
                  refine va_get (D := D) (ci := 13) (v := .int (nI ln)) (C := R_Mo) (T := F_Mo) (N := 54) hx hb hts i_Mo hown hK hP 0 rfl rfl 16 (by decide) (hts _ wd_1104) (fun _ h9 => h9) rfl d_Mo_orderSection_327 ?_
                  refine lv_iload hx hb d_Mo_orderSection_330 (lv_at hl 0 rfl) ?_
                  refine lv_icmp_ge (tgt := 336) hx hb d_Mo_orderSection_332 rfl (fun h332 => ?_) (fun h332 => ?_)
                  · have h332 := (nI_leI (by omega) (by omega)).mp h332
                    have hW2 : orWh se ∧ orA se + orL se + 4 ≤ ln := ⟨h323, h332⟩
                    refine lv_iload hx hb d_Mo_orderSection_336 (lv_at hl 4 rfl) ?_
                    suffices key338 : W p l e ({ frames := 3, cells := 0, slots := 0, locals := 82 }) s m ([.ref h, .int v]).toArray below meth cd s.heap [] 0 0 (MQ below (va_Qv (fun (u : PG) => u = orU g se ln k w) (fun (u : PG) t => zW D (A) [(h, .inr (13, mO r th si (nI ln) lv (nI ng) pn pl rs)), (r 15, .inl (cI, 1024, .inl se)), (r 20, .inl (cI, 4, .inl u.nu)), (r 21, .inl (cI, 4, .inl u.pi)), (r 22, .inl (cI, 4, .inl u.vs)), (r 23, .inl (cI, 4, .inl u.cp)), (r 24, .inl (cI, 4, .inl u.sc)), (r 25, .inl (cZ, 4, .inl u.aw)), (r 26, .inl (cJ, 4, .inr (.inl u.nw))), (r 27, .inl (cI, 4, .inl u.wt)), (r 28, .inl (cI, 16, .inl u.ty)), (r 29, .inl (cI, 16, .inl u.sp)), (r 30, .inl (cJ, 24, .inr (.inl u.z.1))), (r 31, .inl (cI, 24, .inl u.z.2.1)), (r 32, .inl (cZ, 24, .inl u.z.2.2.1)), (r 33, .inl (cJ, 24, .inr (.inl u.z.2.2.2)))] [(cI, .int), (cJ, .long), (cZ, .boolean)] t) (A)) ([.ref h, .int v]).toArray s 0 0 (A)) (F0 m 358 ls [.int (if orBk se then 1 else 0)]) by
                      refine lv_if_eq (tgt := 357) hx hb d_Mo_orderSection_338 rfl (fun h338 => ?_) (fun h338 => ?_)
                      · refine lv_iconst (v := 0) hx hb d_Mo_orderSection_357 (by decide) ?_
                        refine z_topi (w := (if orBk se then 1 else 0)) ((if_neg (fun z => mo_0 h338 z.1)).symm) ?_
                        exact key338
                      · refine lv_aload_n hx hb d_Mo_orderSection_341 rfl (lv_at hl 10 rfl) ?_
                        refine va_get (D := D) (ci := 13) (v := .ref (r 15)) (C := R_Mo) (T := F_Mo) (N := 54) hx hb hts i_Mo hown hK hP 0 rfl rfl 15 (by decide) (hts _ wd_1103) (fun _ h9 => h9) rfl d_Mo_orderSection_342 ?_
                        refine lv_iload hx hb d_Mo_orderSection_345 (lv_at hl 1 rfl) ?_
                        refine z_iald hx hb hK hP 1 0 rfl rfl (orA se) rfl (by omega) (by omega) d_Mo_orderSection_347 ?_
                        refine lv_bipush (v := 127) hx hb d_Mo_orderSection_348 (by decide) ?_
                        refine lv_icmp_le (tgt := 357) hx hb d_Mo_orderSection_350 rfl (fun h350 => ?_) (fun h350 => ?_)
                        · refine lv_iconst (v := 0) hx hb d_Mo_orderSection_357 (by decide) ?_
                          refine z_topi (w := (if orBk se then 1 else 0)) (by first | exact (if_neg (fun z => Int32.not_lt.mpr h350 z.2)).symm | exact (if_pos ⟨mo_1 h338, Int32.not_le.mp h350⟩).symm) ?_
                          exact key338
                        · refine lv_iconst (v := 1) hx hb d_Mo_orderSection_353 (by decide) ?_
                          refine lv_goto (tgt := 358) hx hb d_Mo_orderSection_354 rfl ?_
                          refine z_topi (w := (if orBk se then 1 else 0)) (by first | exact (if_neg (fun z => Int32.not_lt.mpr h350 z.2)).symm | exact (if_pos ⟨mo_1 h338, Int32.not_le.mp h350⟩).symm) ?_
                          exact key338
                    refine lv_istore (lv' := [(13, .int (if orBk se then 1 else 0)), (12, .int (nI (orA se + orL se + 4))), (11, .int (nI (orA se))), (10, .int (if orTi se then 1 else 0)), (9, .int (if orSo se then 1 else 0)), (8, .int (if orLo se then 1 else 0)), (7, .int (if orWh se then 1 else 0)), (6, .int (orAw se)), (5, .int (orN se)), (3, .long (mb_l se 39 33)), (2, .int (nI k)), (0, .ref h), (1, .int v)]) hx hb d_Mo_orderSection_358 hl (by decide) rfl (fun ls hl => ?_)
                    refine lv_iload hx hb d_Mo_orderSection_360 (lv_at hl 0 rfl) ?_
                    suffices key362 : W p l e ({ frames := 3, cells := 0, slots := 0, locals := 82 }) s m ([.ref h, .int v]).toArray below meth cd s.heap [] 0 0 (MQ below (va_Qv (fun (u : PG) => u = orU g se ln k w) (fun (u : PG) t => zW D (A) [(h, .inr (13, mO r th si (nI ln) lv (nI ng) pn pl rs)), (r 15, .inl (cI, 1024, .inl se)), (r 20, .inl (cI, 4, .inl u.nu)), (r 21, .inl (cI, 4, .inl u.pi)), (r 22, .inl (cI, 4, .inl u.vs)), (r 23, .inl (cI, 4, .inl u.cp)), (r 24, .inl (cI, 4, .inl u.sc)), (r 25, .inl (cZ, 4, .inl u.aw)), (r 26, .inl (cJ, 4, .inr (.inl u.nw))), (r 27, .inl (cI, 4, .inl u.wt)), (r 28, .inl (cI, 16, .inl u.ty)), (r 29, .inl (cI, 16, .inl u.sp)), (r 30, .inl (cJ, 24, .inr (.inl u.z.1))), (r 31, .inl (cI, 24, .inl u.z.2.1)), (r 32, .inl (cZ, 24, .inl u.z.2.2.1)), (r 33, .inl (cJ, 24, .inr (.inl u.z.2.2.2)))] [(cI, .int), (cJ, .long), (cZ, .boolean)] t) (A)) ([.ref h, .int v]).toArray s 0 0 (A)) (F0 m 388 ls [.long (orS se)]) by
                      refine lv_if_eq (tgt := 385) hx hb d_Mo_orderSection_362 rfl (fun h362 => ?_) (fun h362 => ?_)
                      · refine lv_ldc2 hx hb hown (hts _ wd_1087) d_Mo_orderSection_385 ?_
                        refine z_topl (w := (orS se)) (by unfold orS; rw [if_neg (mo_0 h362)]) ?_
                        exact key362
                      · refine lv_aload_n hx hb d_Mo_orderSection_365 rfl (lv_at hl 11 rfl) ?_
                        refine va_get (D := D) (ci := 13) (v := .ref (r 15)) (C := R_Mo) (T := F_Mo) (N := 54) hx hb hts i_Mo hown hK hP 0 rfl rfl 15 (by decide) (hts _ wd_1103) (fun _ h9 => h9) rfl d_Mo_orderSection_366 ?_
                        refine lv_bipush (v := 8) hx hb d_Mo_orderSection_369 (by decide) ?_
                        refine lv_iload hx hb d_Mo_orderSection_371 (lv_at hl 2 rfl) ?_
                        refine lv_imul hx hb d_Mo_orderSection_373 ?_
                        refine z_topi (w := nI (8 * orA se)) (pk_mul 8 _) ?_
                        refine lv_bipush (v := 7) hx hb d_Mo_orderSection_374 (by decide) ?_
                        refine lv_iadd hx hb d_Mo_orderSection_376 ?_
                        refine z_topi (w := nI (8 * orA se + 7)) (nI_add _ 7) ?_
                        refine lv_bipush (v := 33) hx hb d_Mo_orderSection_377 (by decide) ?_
                        have hPc := hP.sub (ws' := [((r 15), .inl (cI, 1024, .inl se))]) [1] rfl
                        have hKc := hK.sub (tys' := [(cI, .int)]) [0] rfl
                        refine z_cl (va_runS (As := [.ref (r 15), .int (nI (8 * orA se + 7)), .int (nI 33)]) (rest := []) ⟨hx, hb, hml, hown, hts⟩ (c_Mo_bitsOf l D cI (r 15) 1024 se (8 * orA se + 7) 33 (by omega) (by omega)) (z_cS hN wd_1296 wd_67 wd_1294 hd_Mo_bitsOf rfl rfl ⟨Nat.le_of_ble_eq_true rfl, Nat.le_of_ble_eq_true rfl⟩ wd_1295) (z_preS hPc hKc hN) rfl rfl hl.1 rfl (lv_room (Nat.le_of_ble_eq_true rfl)) d_Mo_orderSection_379 ⟨Nat.le_of_ble_eq_true rfl, Nat.le_of_ble_eq_true rfl⟩) (fun r379 e379 => ?_)
                        subst e379
                        refine lv_goto (tgt := 388) hx hb d_Mo_orderSection_382 rfl ?_
                        refine z_topl (w := (orS se)) (by unfold orS; rw [if_pos (mo_1 h362)]) ?_
                        exact key362
                    refine lv_lstore (lv' := [(14, .long (orS se)), (13, .int (if orBk se then 1 else 0)), (12, .int (nI (orA se + orL se + 4))), (11, .int (nI (orA se))), (10, .int (if orTi se then 1 else 0)), (9, .int (if orSo se then 1 else 0)), (8, .int (if orLo se then 1 else 0)), (7, .int (if orWh se then 1 else 0)), (6, .int (orAw se)), (5, .int (orN se)), (3, .long (mb_l se 39 33)), (2, .int (nI k)), (0, .ref h), (1, .int v)]) hx hb d_Mo_orderSection_388 hl (by decide) rfl (fun ls hl => ?_)
                    refine lv_iload hx hb d_Mo_orderSection_390 (lv_at hl 4 rfl) ?_
                    refine lv_if_eq (tgt := 427) hx hb d_Mo_orderSection_392 rfl (fun h392 => ?_) (fun h392 => ?_)
                    · have h392 := mo_0 h392
                      refine lv_aload_n hx hb d_Mo_orderSection_427 rfl (lv_at hl 12 rfl) ?_
                      refine va_get (D := D) (ci := 13) (v := .ref (r 25)) (C := R_Mo) (T := F_Mo) (N := 54) hx hb hts i_Mo hown hK hP 0 rfl rfl 25 (by decide) (hts _ wd_1113) (fun _ h9 => h9) rfl d_Mo_orderSection_428 ?_
                      refine lv_iload_n hx hb d_Mo_orderSection_431 rfl (lv_at hl 11 rfl) ?_
                      refine lv_iload hx hb d_Mo_orderSection_432 (lv_at hl 8 rfl) ?_
                      refine z_zast hx hb hK hP hD hS 7 2 rfl rfl k rfl (by omega) (by omega) d_Mo_orderSection_434 (fun H locs hP hD hS => ?_)
                      have hP : va_P D classes [(h, .inr (13, mO r th si (nI ln) lv (nI ng) pn pl rs)), (r 15, .inl (cI, 1024, .inl se)), (r 20, .inl (cI, 4, .inl g.nu)), (r 21, .inl (cI, 4, .inl g.pi)), (r 22, .inl (cI, 4, .inl g.vs)), (r 23, .inl (cI, 4, .inl g.cp)), (r 24, .inl (cI, 4, .inl g.sc)), (r 25, .inl (cZ, 4, .inl (upd g.aw k (vp_nar .boolean (orAw se))))), (r 26, .inl (cJ, 4, .inr (.inl g.nw))), (r 27, .inl (cI, 4, .inl g.wt)), (r 28, .inl (cI, 16, .inl g.ty)), (r 29, .inl (cI, 16, .inl g.sp)), (r 30, .inl (cJ, 24, .inr (.inl g.z.1))), (r 31, .inl (cI, 24, .inl g.z.2.1)), (r 32, .inl (cZ, 24, .inl g.z.2.2.1)), (r 33, .inl (cJ, 24, .inr (.inl g.z.2.2.2)))] H := hP
                      have hD : va_D A [(h, .inr (13, mO r th si (nI ln) lv (nI ng) pn pl rs)), (r 15, .inl (cI, 1024, .inl se)), (r 20, .inl (cI, 4, .inl g.nu)), (r 21, .inl (cI, 4, .inl g.pi)), (r 22, .inl (cI, 4, .inl g.vs)), (r 23, .inl (cI, 4, .inl g.cp)), (r 24, .inl (cI, 4, .inl g.sc)), (r 25, .inl (cZ, 4, .inl (upd g.aw k (vp_nar .boolean (orAw se))))), (r 26, .inl (cJ, 4, .inr (.inl g.nw))), (r 27, .inl (cI, 4, .inl g.wt)), (r 28, .inl (cI, 16, .inl g.ty)), (r 29, .inl (cI, 16, .inl g.sp)), (r 30, .inl (cJ, 24, .inr (.inl g.z.1))), (r 31, .inl (cI, 24, .inl g.z.2.1)), (r 32, .inl (cZ, 24, .inl g.z.2.2.1)), (r 33, .inl (cJ, 24, .inr (.inl g.z.2.2.2)))] := hD
                      refine lv_iload hx hb d_Mo_orderSection_435 (lv_at hl 1 rfl) ?_
                      refine lv_if_eq (tgt := 486) hx hb d_Mo_orderSection_437 rfl (fun h437 => ?_) (fun h437 => ?_)
                      · have h437 := mo_0 h437
                        have hP9 := hP.sub (ws' := [(h, .inr (13, mO r th si (nI ln) lv (nI ng) pn pl rs)), (r 15, .inl (cI, 1024, .inl se)), (r 20, .inl (cI, 4, .inl g.nu)), (r 21, .inl (cI, 4, .inl g.pi)), (r 22, .inl (cI, 4, .inl g.vs)), (r 23, .inl (cI, 4, .inl g.cp)), (r 24, .inl (cI, 4, .inl g.sc)), (r 25, .inl (cZ, 4, .inl (upd g.aw k (vp_nar .boolean (orAw se))))), (r 26, .inl (cJ, 4, .inr (.inl g.nw))), (r 27, .inl (cI, 4, .inl g.wt)), (r 28, .inl (cI, 16, .inl g.ty)), (r 29, .inl (cI, 16, .inl g.sp)), (r 30, .inl (cJ, 24, .inr (.inl g.z.1))), (r 31, .inl (cI, 24, .inl g.z.2.1)), (r 32, .inl (cZ, 24, .inl g.z.2.2.1)), (r 33, .inl (cJ, 24, .inr (.inl g.z.2.2.2)))]) [0, 1, 2, 3, 4, 5, 6, 7, 8, 9, 10, 11, 12, 13, 14, 15] rfl
                        have hD9 := hD.sub (ws' := [(h, .inr (13, mO r th si (nI ln) lv (nI ng) pn pl rs)), (r 15, .inl (cI, 1024, .inl se)), (r 20, .inl (cI, 4, .inl g.nu)), (r 21, .inl (cI, 4, .inl g.pi)), (r 22, .inl (cI, 4, .inl g.vs)), (r 23, .inl (cI, 4, .inl g.cp)), (r 24, .inl (cI, 4, .inl g.sc)), (r 25, .inl (cZ, 4, .inl (upd g.aw k (vp_nar .boolean (orAw se))))), (r 26, .inl (cJ, 4, .inr (.inl g.nw))), (r 27, .inl (cI, 4, .inl g.wt)), (r 28, .inl (cI, 16, .inl g.ty)), (r 29, .inl (cI, 16, .inl g.sp)), (r 30, .inl (cJ, 24, .inr (.inl g.z.1))), (r 31, .inl (cI, 24, .inl g.z.2.1)), (r 32, .inl (cZ, 24, .inl g.z.2.2.1)), (r 33, .inl (cJ, 24, .inr (.inl g.z.2.2.2)))]) [0, 1, 2, 3, 4, 5, 6, 7, 8, 9, 10, 11, 12, 13, 14, 15] (by decide) rfl
                        have hK9 := hK.sub (tys' := [(cI, .int), (cJ, .long), (cZ, .boolean)]) [0, 1, 2] rfl
                        exact W.vret hx hb hr (fun t ht hW => ⟨⟨orB g k (orAw se), rfl, (by unfold orU; rw [if_pos hH, if_neg h96, if_neg h166, if_pos hW2, if_neg h392, if_neg (by first | exact fun z => h437 z.1 | exact fun z => z.2 h450)]), ⟨by rw [ht]; exact hP9, va_K.moved hW.alike hK9, hD9⟩⟩, hS.F ht⟩) hS.2.2 d_Mo_orderSection_486
                      · have h437 := mo_1 h437
                        refine lv_aload_n hx hb d_Mo_orderSection_440 rfl (lv_at hl 12 rfl) ?_
                        refine va_get (D := D) (ci := 13) (v := .ref (r 26)) (C := R_Mo) (T := F_Mo) (N := 54) hx hb hts i_Mo hown hK hP 0 rfl rfl 26 (by decide) (hts _ wd_1114) (fun _ h9 => h9) rfl d_Mo_orderSection_441 ?_
                        refine lv_iload_n hx hb d_Mo_orderSection_444 rfl (lv_at hl 11 rfl) ?_
                        refine z_lald hx hb hK hP 8 1 rfl rfl k rfl (by omega) (by omega) d_Mo_orderSection_445 ?_
                        refine lv_ldc2 hx hb hown (hts _ wd_1087) d_Mo_orderSection_446 ?_
                        refine W.lcmp hx hb d_Mo_orderSection_449 ?_
                        refine lv_if_eq (tgt := 486) hx hb d_Mo_orderSection_450 rfl (fun h450 => ?_) (fun h450 => ?_)
                        · have h450 := (lg_cmp_eq _ _).mp h450
                          have hP9 := hP.sub (ws' := [(h, .inr (13, mO r th si (nI ln) lv (nI ng) pn pl rs)), (r 15, .inl (cI, 1024, .inl se)), (r 20, .inl (cI, 4, .inl g.nu)), (r 21, .inl (cI, 4, .inl g.pi)), (r 22, .inl (cI, 4, .inl g.vs)), (r 23, .inl (cI, 4, .inl g.cp)), (r 24, .inl (cI, 4, .inl g.sc)), (r 25, .inl (cZ, 4, .inl (upd g.aw k (vp_nar .boolean (orAw se))))), (r 26, .inl (cJ, 4, .inr (.inl g.nw))), (r 27, .inl (cI, 4, .inl g.wt)), (r 28, .inl (cI, 16, .inl g.ty)), (r 29, .inl (cI, 16, .inl g.sp)), (r 30, .inl (cJ, 24, .inr (.inl g.z.1))), (r 31, .inl (cI, 24, .inl g.z.2.1)), (r 32, .inl (cZ, 24, .inl g.z.2.2.1)), (r 33, .inl (cJ, 24, .inr (.inl g.z.2.2.2)))]) [0, 1, 2, 3, 4, 5, 6, 7, 8, 9, 10, 11, 12, 13, 14, 15] rfl
                          have hD9 := hD.sub (ws' := [(h, .inr (13, mO r th si (nI ln) lv (nI ng) pn pl rs)), (r 15, .inl (cI, 1024, .inl se)), (r 20, .inl (cI, 4, .inl g.nu)), (r 21, .inl (cI, 4, .inl g.pi)), (r 22, .inl (cI, 4, .inl g.vs)), (r 23, .inl (cI, 4, .inl g.cp)), (r 24, .inl (cI, 4, .inl g.sc)), (r 25, .inl (cZ, 4, .inl (upd g.aw k (vp_nar .boolean (orAw se))))), (r 26, .inl (cJ, 4, .inr (.inl g.nw))), (r 27, .inl (cI, 4, .inl g.wt)), (r 28, .inl (cI, 16, .inl g.ty)), (r 29, .inl (cI, 16, .inl g.sp)), (r 30, .inl (cJ, 24, .inr (.inl g.z.1))), (r 31, .inl (cI, 24, .inl g.z.2.1)), (r 32, .inl (cZ, 24, .inl g.z.2.2.1)), (r 33, .inl (cJ, 24, .inr (.inl g.z.2.2.2)))]) [0, 1, 2, 3, 4, 5, 6, 7, 8, 9, 10, 11, 12, 13, 14, 15] (by decide) rfl
                          have hK9 := hK.sub (tys' := [(cI, .int), (cJ, .long), (cZ, .boolean)]) [0, 1, 2] rfl
                          exact W.vret hx hb hr (fun t ht hW => ⟨⟨orB g k (orAw se), rfl, (by unfold orU; rw [if_pos hH, if_neg h96, if_neg h166, if_pos hW2, if_neg h392, if_neg (by first | exact fun z => h437 z.1 | exact fun z => z.2 h450)]), ⟨by rw [ht]; exact hP9, va_K.moved hW.alike hK9, hD9⟩⟩, hS.F ht⟩) hS.2.2 d_Mo_orderSection_486
                        · have h450 := mt (lg_cmp_eq _ _).mpr h450
                          refine lv_aload_n hx hb d_Mo_orderSection_453 rfl (lv_at hl 12 rfl) ?_
                          refine lv_iload_n hx hb d_Mo_orderSection_454 rfl (lv_at hl 11 rfl) ?_
                          refine lv_aload_n hx hb d_Mo_orderSection_455 rfl (lv_at hl 12 rfl) ?_
                          refine va_get (D := D) (ci := 13) (v := .ref (r 26)) (C := R_Mo) (T := F_Mo) (N := 54) hx hb hts i_Mo hown hK hP 0 rfl rfl 26 (by decide) (hts _ wd_1114) (fun _ h9 => h9) rfl d_Mo_orderSection_456 ?_
                          refine lv_iload_n hx hb d_Mo_orderSection_459 rfl (lv_at hl 11 rfl) ?_
                          refine z_lald hx hb hK hP 8 1 rfl rfl k rfl (by omega) (by omega) d_Mo_orderSection_460 ?_
                          refine lv_lload hx hb d_Mo_orderSection_461 (lv_at hl 0 rfl) ?_
                          refine lv_ladd hx hb d_Mo_orderSection_463 ?_
                          refine lv_ldc2 hx hb hown (hts _ wd_1335) d_Mo_orderSection_464 ?_
                          refine lv_lrem hx hb d_Mo_orderSection_467 (by decide) ?_
                          refine z_topl (w := rndV (g.nw k + orS se)) rfl ?_
                          refine lv_iload hx hb d_Mo_orderSection_468 (lv_at hl 9 rfl) ?_
                          refine lv_iload hx hb d_Mo_orderSection_470 (lv_at hl 8 rfl) ?_
                          suffices key472 : W p l e ({ frames := 3, cells := 0, slots := 0, locals := 82 }) s m ([.ref h, .int v]).toArray below meth cd H locs 0 0 (MQ below (va_Qv (fun (u : PG) => u = orU g se ln k w) (fun (u : PG) t => zW D (A) [(h, .inr (13, mO r th si (nI ln) lv (nI ng) pn pl rs)), (r 15, .inl (cI, 1024, .inl se)), (r 20, .inl (cI, 4, .inl u.nu)), (r 21, .inl (cI, 4, .inl u.pi)), (r 22, .inl (cI, 4, .inl u.vs)), (r 23, .inl (cI, 4, .inl u.cp)), (r 24, .inl (cI, 4, .inl u.sc)), (r 25, .inl (cZ, 4, .inl u.aw)), (r 26, .inl (cJ, 4, .inr (.inl u.nw))), (r 27, .inl (cI, 4, .inl u.wt)), (r 28, .inl (cI, 16, .inl u.ty)), (r 29, .inl (cI, 16, .inl u.sp)), (r 30, .inl (cJ, 24, .inr (.inl u.z.1))), (r 31, .inl (cI, 24, .inl u.z.2.1)), (r 32, .inl (cZ, 24, .inl u.z.2.2.1)), (r 33, .inl (cJ, 24, .inr (.inl u.z.2.2.2)))] [(cI, .int), (cJ, .long), (cZ, .boolean)] t) (A)) ([.ref h, .int v]).toArray s 0 0 (A)) (F0 m 480 ls [.int (if orAw se = 0 then 1 else 0), .int (orN se), .long (rndV (g.nw k + orS se)), .int (nI k), .ref h]) by
                            refine lv_if_ne (tgt := 479) hx hb d_Mo_orderSection_472 rfl (fun h472 => ?_) (fun h472 => ?_)
                            · refine lv_iconst (v := 0) hx hb d_Mo_orderSection_479 (by decide) ?_
                              refine z_topi (w := (if orAw se = 0 then 1 else 0)) ((if_neg h472).symm) ?_
                              exact key472
                            · refine lv_iconst (v := 1) hx hb d_Mo_orderSection_475 (by decide) ?_
                              refine lv_goto (tgt := 480) hx hb d_Mo_orderSection_476 rfl ?_
                              refine z_topi (w := (if orAw se = 0 then 1 else 0)) ((if_pos h472).symm) ?_
                              exact key472
                          refine lv_ldc2 hx hb hown (hts _ wd_1087) d_Mo_orderSection_480 ?_
                          have hPc := hP.sub (ws' := [(h, .inr (13, mO r th si (nI ln) lv (nI ng) pn pl rs)), (r 27, .inl (cI, 4, .inl g.wt)), (r 30, .inl (cJ, 24, .inr (.inl g.z.1))), (r 31, .inl (cI, 24, .inl g.z.2.1)), (r 32, .inl (cZ, 24, .inl g.z.2.2.1)), (r 33, .inl (cJ, 24, .inr (.inl g.z.2.2.2)))]) [0, 9, 12, 13, 14, 15] rfl
                          have hKc := hK.sub (tys' := [(cI, .int), (cJ, .long), (cZ, .boolean)]) [0, 1, 2] rfl
                          have hDc := hD.sub (ws' := [(h, .inr (13, mO r th si (nI ln) lv (nI ng) pn pl rs)), (r 27, .inl (cI, 4, .inl g.wt)), (r 30, .inl (cJ, 24, .inr (.inl g.z.1))), (r 31, .inl (cI, 24, .inl g.z.2.1)), (r 32, .inl (cZ, 24, .inl g.z.2.2.1)), (r 33, .inl (cJ, 24, .inr (.inl g.z.2.2.2)))]) [0, 9, 12, 13, 14, 15] (by decide) rfl
                          have hFc := va_free (wc := [(h, .inr (13, mO r th si (nI ln) lv (nI ng) pn pl rs)), (r 27, .inl (cI, 4, .inl g.wt)), (r 30, .inl (cJ, 24, .inr (.inl g.z.1))), (r 31, .inl (cI, 24, .inl g.z.2.1)), (r 32, .inl (cZ, 24, .inl g.z.2.2.1)), (r 33, .inl (cJ, 24, .inr (.inl g.z.2.2.2)))]) hD hS hA [0, 9, 12, 13, 14, 15] rfl
                          refine va_callv (va_runV (As := [.int (nI k), .long (rndV (g.nw k + orS se)), .int (orN se), .int (if orAw se = 0 then 1 else 0), .long (-1)]) (rest := []) ⟨hx, hb, hml, hown, hts⟩ (c_Mo_append l D H.size cI h r th si (nI ln) lv (nI ng) pn pl rs cJ cZ g.z g.wt k w (rndV (g.nw k + orS se)) (orN se) (if orAw se = 0 then 1 else 0) (-1) hk hw hw6) (z_cV hN wd_1344 wd_67 wd_1341 hd_Mo_append rfl rfl ⟨Nat.le_of_ble_eq_true rfl, Nat.le_of_ble_eq_true rfl⟩ wd_1343 wd_40) (z_preVm (va_recv (ci := 13) (q0 := 0) hK hP rfl rfl) hPc hKc hN hDc) rfl rfl hl.1 rfl (lv_room (Nat.le_of_ble_eq_true rfl)) d_Mo_orderSection_483 ⟨Nat.le_of_ble_eq_true rfl, Nat.le_of_ble_eq_true rfl⟩) hS (fun q _ h => hFc q h) hFc (fun y483 t H locs ht hvm e483 hB hz1 hk1 hS => ?_)
                          obtain ⟨hP1, hK1, hD1⟩ := hB
                          rw [ht] at hP1
                          obtain ⟨hP, hD⟩ := va_join (wr := [(r 15, .inl (cI, 1024, .inl se)), (r 20, .inl (cI, 4, .inl g.nu)), (r 21, .inl (cI, 4, .inl g.pi)), (r 22, .inl (cI, 4, .inl g.vs)), (r 23, .inl (cI, 4, .inl g.cp)), (r 24, .inl (cI, 4, .inl g.sc)), (r 25, .inl (cZ, 4, .inl (upd g.aw k (vp_nar .boolean (orAw se))))), (r 26, .inl (cJ, 4, .inr (.inl g.nw))), (r 28, .inl (cI, 16, .inl g.ty)), (r 29, .inl (cI, 16, .inl g.sp))]) (w1 := [(h, .inr (13, mO r th si (nI ln) lv (nI ng) pn pl rs)), (r 27, .inl (cI, 4, .inl y483.2)), (r 30, .inl (cJ, 24, .inr (.inl y483.1.1))), (r 31, .inl (cI, 24, .inl y483.1.2.1)), (r 32, .inl (cZ, 24, .inl y483.1.2.2.1)), (r 33, .inl (cJ, 24, .inr (.inl y483.1.2.2.2)))]) hP hD [0, 9, 12, 13, 14, 15] [1, 2, 3, 4, 5, 6, 7, 8, 10, 11] rfl rfl (by decide) (by decide) hk1 hFc hP1 hD1
                          clear hk1 hP1 hD1 hFc hPc hDc hz1
                          have hP : va_P D classes [(r 15, .inl (cI, 1024, .inl se)), (r 20, .inl (cI, 4, .inl g.nu)), (r 21, .inl (cI, 4, .inl g.pi)), (r 22, .inl (cI, 4, .inl g.vs)), (r 23, .inl (cI, 4, .inl g.cp)), (r 24, .inl (cI, 4, .inl g.sc)), (r 25, .inl (cZ, 4, .inl (upd g.aw k (vp_nar .boolean (orAw se))))), (r 26, .inl (cJ, 4, .inr (.inl g.nw))), (r 28, .inl (cI, 16, .inl g.ty)), (r 29, .inl (cI, 16, .inl g.sp)), (h, .inr (13, mO r th si (nI ln) lv (nI ng) pn pl rs)), (r 27, .inl (cI, 4, .inl y483.2)), (r 30, .inl (cJ, 24, .inr (.inl y483.1.1))), (r 31, .inl (cI, 24, .inl y483.1.2.1)), (r 32, .inl (cZ, 24, .inl y483.1.2.2.1)), (r 33, .inl (cJ, 24, .inr (.inl y483.1.2.2.2)))] H := hP
                          have hD : va_D A [(r 15, .inl (cI, 1024, .inl se)), (r 20, .inl (cI, 4, .inl g.nu)), (r 21, .inl (cI, 4, .inl g.pi)), (r 22, .inl (cI, 4, .inl g.vs)), (r 23, .inl (cI, 4, .inl g.cp)), (r 24, .inl (cI, 4, .inl g.sc)), (r 25, .inl (cZ, 4, .inl (upd g.aw k (vp_nar .boolean (orAw se))))), (r 26, .inl (cJ, 4, .inr (.inl g.nw))), (r 28, .inl (cI, 16, .inl g.ty)), (r 29, .inl (cI, 16, .inl g.sp)), (h, .inr (13, mO r th si (nI ln) lv (nI ng) pn pl rs)), (r 27, .inl (cI, 4, .inl y483.2)), (r 30, .inl (cJ, 24, .inr (.inl y483.1.1))), (r 31, .inl (cI, 24, .inl y483.1.2.1)), (r 32, .inl (cZ, 24, .inl y483.1.2.2.1)), (r 33, .inl (cJ, 24, .inr (.inl y483.1.2.2.2)))] := hD
                          have hP9 := hP.sub (ws' := [(h, .inr (13, mO r th si (nI ln) lv (nI ng) pn pl rs)), (r 15, .inl (cI, 1024, .inl se)), (r 20, .inl (cI, 4, .inl g.nu)), (r 21, .inl (cI, 4, .inl g.pi)), (r 22, .inl (cI, 4, .inl g.vs)), (r 23, .inl (cI, 4, .inl g.cp)), (r 24, .inl (cI, 4, .inl g.sc)), (r 25, .inl (cZ, 4, .inl (upd g.aw k (vp_nar .boolean (orAw se))))), (r 26, .inl (cJ, 4, .inr (.inl g.nw))), (r 27, .inl (cI, 4, .inl y483.2)), (r 28, .inl (cI, 16, .inl g.ty)), (r 29, .inl (cI, 16, .inl g.sp)), (r 30, .inl (cJ, 24, .inr (.inl y483.1.1))), (r 31, .inl (cI, 24, .inl y483.1.2.1)), (r 32, .inl (cZ, 24, .inl y483.1.2.2.1)), (r 33, .inl (cJ, 24, .inr (.inl y483.1.2.2.2)))]) [10, 0, 1, 2, 3, 4, 5, 6, 7, 11, 8, 9, 12, 13, 14, 15] rfl
                          have hD9 := hD.sub (ws' := [(h, .inr (13, mO r th si (nI ln) lv (nI ng) pn pl rs)), (r 15, .inl (cI, 1024, .inl se)), (r 20, .inl (cI, 4, .inl g.nu)), (r 21, .inl (cI, 4, .inl g.pi)), (r 22, .inl (cI, 4, .inl g.vs)), (r 23, .inl (cI, 4, .inl g.cp)), (r 24, .inl (cI, 4, .inl g.sc)), (r 25, .inl (cZ, 4, .inl (upd g.aw k (vp_nar .boolean (orAw se))))), (r 26, .inl (cJ, 4, .inr (.inl g.nw))), (r 27, .inl (cI, 4, .inl y483.2)), (r 28, .inl (cI, 16, .inl g.ty)), (r 29, .inl (cI, 16, .inl g.sp)), (r 30, .inl (cJ, 24, .inr (.inl y483.1.1))), (r 31, .inl (cI, 24, .inl y483.1.2.1)), (r 32, .inl (cZ, 24, .inl y483.1.2.2.1)), (r 33, .inl (cJ, 24, .inr (.inl y483.1.2.2.2)))]) [10, 0, 1, 2, 3, 4, 5, 6, 7, 11, 8, 9, 12, 13, 14, 15] (by decide) rfl
                          have hK9 := hK.sub (tys' := [(cI, .int), (cJ, .long), (cZ, .boolean)]) [0, 1, 2] rfl
                          exact W.vret hx hb hr (fun t ht hW => ⟨⟨orZ (orB g k (orAw se)) y483, rfl, (by unfold orU; rw [if_pos hH, if_neg h96, if_neg h166, if_pos hW2, if_neg h392, if_pos ⟨h437, h450⟩, e483]), ⟨by rw [ht]; exact hP9, va_K.moved hW.alike hK9, hD9⟩⟩, hS.F ht⟩) hS.2.2 d_Mo_orderSection_486
                    · have h392 := mo_1 h392
                      refine lv_aload_n hx hb d_Mo_orderSection_395 rfl (lv_at hl 12 rfl) ?_
                      refine lv_iload_n hx hb d_Mo_orderSection_396 rfl (lv_at hl 11 rfl) ?_
                      refine lv_aload_n hx hb d_Mo_orderSection_397 rfl (lv_at hl 12 rfl) ?_
                      refine va_get (D := D) (ci := 13) (v := .ref (r 15)) (C := R_Mo) (T := F_Mo) (N := 54) hx hb hts i_Mo hown hK hP 0 rfl rfl 15 (by decide) (hts _ wd_1103) (fun _ h9 => h9) rfl d_Mo_orderSection_398 ?_
                      refine lv_sipush (v := 167) hx hb d_Mo_orderSection_401 (by decide) ?_
                      refine lv_bipush (v := 33) hx hb d_Mo_orderSection_404 (by decide) ?_
                      have hPc := hP.sub (ws' := [((r 15), .inl (cI, 1024, .inl se))]) [1] rfl
                      have hKc := hK.sub (tys' := [(cI, .int)]) [0] rfl
                      refine z_cl (va_runS (As := [.ref (r 15), .int (nI 167), .int (nI 33)]) (rest := [.int (nI k), .ref h]) ⟨hx, hb, hml, hown, hts⟩ (c_Mo_bitsOf l D cI (r 15) 1024 se 167 33 (by omega) (by omega)) (z_cS hN wd_1296 wd_67 wd_1294 hd_Mo_bitsOf rfl rfl ⟨Nat.le_of_ble_eq_true rfl, Nat.le_of_ble_eq_true rfl⟩ wd_1295) (z_preS hPc hKc hN) rfl rfl hl.1 rfl (lv_room (Nat.le_of_ble_eq_true rfl)) d_Mo_orderSection_406 ⟨Nat.le_of_ble_eq_true rfl, Nat.le_of_ble_eq_true rfl⟩) (fun r406 e406 => ?_)
                      subst e406
                      refine lv_lload_n hx hb d_Mo_orderSection_409 rfl (lv_at hl 10 rfl) ?_
                      refine lv_ladd hx hb d_Mo_orderSection_410 ?_
                      refine lv_ldc2 hx hb hown (hts _ wd_1335) d_Mo_orderSection_411 ?_
                      refine lv_lrem hx hb d_Mo_orderSection_414 (by decide) ?_
                      refine z_topl (w := rndV (mb_l se 167 33 + mb_l se 39 33)) rfl ?_
                      refine lv_iload hx hb d_Mo_orderSection_415 (lv_at hl 9 rfl) ?_
                      refine lv_iload hx hb d_Mo_orderSection_417 (lv_at hl 8 rfl) ?_
                      refine lv_lload hx hb d_Mo_orderSection_419 (lv_at hl 0 rfl) ?_
                      have hPc := hP.sub (ws' := [(h, .inr (13, mO r th si (nI ln) lv (nI ng) pn pl rs)), (r 27, .inl (cI, 4, .inl g.wt)), (r 30, .inl (cJ, 24, .inr (.inl g.z.1))), (r 31, .inl (cI, 24, .inl g.z.2.1)), (r 32, .inl (cZ, 24, .inl g.z.2.2.1)), (r 33, .inl (cJ, 24, .inr (.inl g.z.2.2.2)))]) [0, 9, 12, 13, 14, 15] rfl
                      have hKc := hK.sub (tys' := [(cI, .int), (cJ, .long), (cZ, .boolean)]) [0, 1, 2] rfl
                      have hDc := hD.sub (ws' := [(h, .inr (13, mO r th si (nI ln) lv (nI ng) pn pl rs)), (r 27, .inl (cI, 4, .inl g.wt)), (r 30, .inl (cJ, 24, .inr (.inl g.z.1))), (r 31, .inl (cI, 24, .inl g.z.2.1)), (r 32, .inl (cZ, 24, .inl g.z.2.2.1)), (r 33, .inl (cJ, 24, .inr (.inl g.z.2.2.2)))]) [0, 9, 12, 13, 14, 15] (by decide) rfl
                      have hFc := va_free (wc := [(h, .inr (13, mO r th si (nI ln) lv (nI ng) pn pl rs)), (r 27, .inl (cI, 4, .inl g.wt)), (r 30, .inl (cJ, 24, .inr (.inl g.z.1))), (r 31, .inl (cI, 24, .inl g.z.2.1)), (r 32, .inl (cZ, 24, .inl g.z.2.2.1)), (r 33, .inl (cJ, 24, .inr (.inl g.z.2.2.2)))]) hD hS hA [0, 9, 12, 13, 14, 15] rfl
                      refine va_callv (va_runV (As := [.int (nI k), .long (rndV (mb_l se 167 33 + mb_l se 39 33)), .int (orN se), .int (orAw se), .long (orS se)]) (rest := []) ⟨hx, hb, hml, hown, hts⟩ (c_Mo_await0 l D s.heap.size cI h r th si (nI ln) lv (nI ng) pn pl rs cJ cZ g.z g.wt k w (rndV (mb_l se 167 33 + mb_l se 39 33)) (orN se) (orAw se) (orS se) hk hw hw6) (z_cV hN wd_1368 wd_67 wd_1365 hd_Mo_await0 rfl rfl ⟨Nat.le_of_ble_eq_true rfl, Nat.le_of_ble_eq_true rfl⟩ wd_1367 wd_46) (z_preVm (va_recv (ci := 13) (q0 := 0) hK hP rfl rfl) hPc hKc hN hDc) rfl rfl hl.1 rfl (lv_room (Nat.le_of_ble_eq_true rfl)) d_Mo_orderSection_421 ⟨Nat.le_of_ble_eq_true rfl, Nat.le_of_ble_eq_true rfl⟩) hS (fun q _ h => hFc q h) hFc (fun y421 t H locs ht hvm e421 hB hz1 hk1 hS => ?_)
                      obtain ⟨hP1, hK1, hD1⟩ := hB
                      rw [ht] at hP1
                      obtain ⟨hP, hD⟩ := va_join (wr := [(r 15, .inl (cI, 1024, .inl se)), (r 20, .inl (cI, 4, .inl g.nu)), (r 21, .inl (cI, 4, .inl g.pi)), (r 22, .inl (cI, 4, .inl g.vs)), (r 23, .inl (cI, 4, .inl g.cp)), (r 24, .inl (cI, 4, .inl g.sc)), (r 25, .inl (cZ, 4, .inl g.aw)), (r 26, .inl (cJ, 4, .inr (.inl g.nw))), (r 28, .inl (cI, 16, .inl g.ty)), (r 29, .inl (cI, 16, .inl g.sp))]) (w1 := [(h, .inr (13, mO r th si (nI ln) lv (nI ng) pn pl rs)), (r 27, .inl (cI, 4, .inl y421.2)), (r 30, .inl (cJ, 24, .inr (.inl y421.1.1))), (r 31, .inl (cI, 24, .inl y421.1.2.1)), (r 32, .inl (cZ, 24, .inl y421.1.2.2.1)), (r 33, .inl (cJ, 24, .inr (.inl y421.1.2.2.2)))]) hP hD [0, 9, 12, 13, 14, 15] [1, 2, 3, 4, 5, 6, 7, 8, 10, 11] rfl rfl (by decide) (by decide) hk1 hFc hP1 hD1
                      clear hk1 hP1 hD1 hFc hPc hDc hz1
                      have hP : va_P D classes [(r 15, .inl (cI, 1024, .inl se)), (r 20, .inl (cI, 4, .inl g.nu)), (r 21, .inl (cI, 4, .inl g.pi)), (r 22, .inl (cI, 4, .inl g.vs)), (r 23, .inl (cI, 4, .inl g.cp)), (r 24, .inl (cI, 4, .inl g.sc)), (r 25, .inl (cZ, 4, .inl g.aw)), (r 26, .inl (cJ, 4, .inr (.inl g.nw))), (r 28, .inl (cI, 16, .inl g.ty)), (r 29, .inl (cI, 16, .inl g.sp)), (h, .inr (13, mO r th si (nI ln) lv (nI ng) pn pl rs)), (r 27, .inl (cI, 4, .inl y421.2)), (r 30, .inl (cJ, 24, .inr (.inl y421.1.1))), (r 31, .inl (cI, 24, .inl y421.1.2.1)), (r 32, .inl (cZ, 24, .inl y421.1.2.2.1)), (r 33, .inl (cJ, 24, .inr (.inl y421.1.2.2.2)))] H := hP
                      have hD : va_D A [(r 15, .inl (cI, 1024, .inl se)), (r 20, .inl (cI, 4, .inl g.nu)), (r 21, .inl (cI, 4, .inl g.pi)), (r 22, .inl (cI, 4, .inl g.vs)), (r 23, .inl (cI, 4, .inl g.cp)), (r 24, .inl (cI, 4, .inl g.sc)), (r 25, .inl (cZ, 4, .inl g.aw)), (r 26, .inl (cJ, 4, .inr (.inl g.nw))), (r 28, .inl (cI, 16, .inl g.ty)), (r 29, .inl (cI, 16, .inl g.sp)), (h, .inr (13, mO r th si (nI ln) lv (nI ng) pn pl rs)), (r 27, .inl (cI, 4, .inl y421.2)), (r 30, .inl (cJ, 24, .inr (.inl y421.1.1))), (r 31, .inl (cI, 24, .inl y421.1.2.1)), (r 32, .inl (cZ, 24, .inl y421.1.2.2.1)), (r 33, .inl (cJ, 24, .inr (.inl y421.1.2.2.2)))] := hD
                      refine lv_goto (tgt := 486) hx hb d_Mo_orderSection_424 rfl ?_
                      have hP9 := hP.sub (ws' := [(h, .inr (13, mO r th si (nI ln) lv (nI ng) pn pl rs)), (r 15, .inl (cI, 1024, .inl se)), (r 20, .inl (cI, 4, .inl g.nu)), (r 21, .inl (cI, 4, .inl g.pi)), (r 22, .inl (cI, 4, .inl g.vs)), (r 23, .inl (cI, 4, .inl g.cp)), (r 24, .inl (cI, 4, .inl g.sc)), (r 25, .inl (cZ, 4, .inl g.aw)), (r 26, .inl (cJ, 4, .inr (.inl g.nw))), (r 27, .inl (cI, 4, .inl y421.2)), (r 28, .inl (cI, 16, .inl g.ty)), (r 29, .inl (cI, 16, .inl g.sp)), (r 30, .inl (cJ, 24, .inr (.inl y421.1.1))), (r 31, .inl (cI, 24, .inl y421.1.2.1)), (r 32, .inl (cZ, 24, .inl y421.1.2.2.1)), (r 33, .inl (cJ, 24, .inr (.inl y421.1.2.2.2)))]) [10, 0, 1, 2, 3, 4, 5, 6, 7, 11, 8, 9, 12, 13, 14, 15] rfl
                      have hD9 := hD.sub (ws' := [(h, .inr (13, mO r th si (nI ln) lv (nI ng) pn pl rs)), (r 15, .inl (cI, 1024, .inl se)), (r 20, .inl (cI, 4, .inl g.nu)), (r 21, .inl (cI, 4, .inl g.pi)), (r 22, .inl (cI, 4, .inl g.vs)), (r 23, .inl (cI, 4, .inl g.cp)), (r 24, .inl (cI, 4, .inl g.sc)), (r 25, .inl (cZ, 4, .inl g.aw)), (r 26, .inl (cJ, 4, .inr (.inl g.nw))), (r 27, .inl (cI, 4, .inl y421.2)), (r 28, .inl (cI, 16, .inl g.ty)), (r 29, .inl (cI, 16, .inl g.sp)), (r 30, .inl (cJ, 24, .inr (.inl y421.1.1))), (r 31, .inl (cI, 24, .inl y421.1.2.1)), (r 32, .inl (cZ, 24, .inl y421.1.2.2.1)), (r 33, .inl (cJ, 24, .inr (.inl y421.1.2.2.2)))]) [10, 0, 1, 2, 3, 4, 5, 6, 7, 11, 8, 9, 12, 13, 14, 15] (by decide) rfl
                      have hK9 := hK.sub (tys' := [(cI, .int), (cJ, .long), (cZ, .boolean)]) [0, 1, 2] rfl
                      exact W.vret hx hb hr (fun t ht hW => ⟨⟨orZ g y421, rfl, (by unfold orU; rw [if_pos hH, if_neg h96, if_neg h166, if_pos hW2, if_pos h392, e421]), ⟨by rw [ht]; exact hP9, va_K.moved hW.alike hK9, hD9⟩⟩, hS.F ht⟩) hS.2.2 d_Mo_orderSection_486
                  · have h332 := mt (nI_leI (by omega) (by omega)).mpr h332
                    have hP9 := hP.sub (ws' := [(h, .inr (13, mO r th si (nI ln) lv (nI ng) pn pl rs)), (r 15, .inl (cI, 1024, .inl se)), (r 20, .inl (cI, 4, .inl g.nu)), (r 21, .inl (cI, 4, .inl g.pi)), (r 22, .inl (cI, 4, .inl g.vs)), (r 23, .inl (cI, 4, .inl g.cp)), (r 24, .inl (cI, 4, .inl g.sc)), (r 25, .inl (cZ, 4, .inl g.aw)), (r 26, .inl (cJ, 4, .inr (.inl g.nw))), (r 27, .inl (cI, 4, .inl g.wt)), (r 28, .inl (cI, 16, .inl g.ty)), (r 29, .inl (cI, 16, .inl g.sp)), (r 30, .inl (cJ, 24, .inr (.inl g.z.1))), (r 31, .inl (cI, 24, .inl g.z.2.1)), (r 32, .inl (cZ, 24, .inl g.z.2.2.1)), (r 33, .inl (cJ, 24, .inr (.inl g.z.2.2.2)))]) [0, 1, 2, 3, 4, 5, 6, 7, 8, 9, 10, 11, 12, 13, 14, 15] rfl
                    have hD9 := hD.sub (ws' := [(h, .inr (13, mO r th si (nI ln) lv (nI ng) pn pl rs)), (r 15, .inl (cI, 1024, .inl se)), (r 20, .inl (cI, 4, .inl g.nu)), (r 21, .inl (cI, 4, .inl g.pi)), (r 22, .inl (cI, 4, .inl g.vs)), (r 23, .inl (cI, 4, .inl g.cp)), (r 24, .inl (cI, 4, .inl g.sc)), (r 25, .inl (cZ, 4, .inl g.aw)), (r 26, .inl (cJ, 4, .inr (.inl g.nw))), (r 27, .inl (cI, 4, .inl g.wt)), (r 28, .inl (cI, 16, .inl g.ty)), (r 29, .inl (cI, 16, .inl g.sp)), (r 30, .inl (cJ, 24, .inr (.inl g.z.1))), (r 31, .inl (cI, 24, .inl g.z.2.1)), (r 32, .inl (cZ, 24, .inl g.z.2.2.1)), (r 33, .inl (cJ, 24, .inr (.inl g.z.2.2.2)))]) [0, 1, 2, 3, 4, 5, 6, 7, 8, 9, 10, 11, 12, 13, 14, 15] (by decide) rfl
                    have hK9 := hK.sub (tys' := [(cI, .int), (cJ, .long), (cZ, .boolean)]) [0, 1, 2] rfl
                    exact W.vret hx hb hr (fun t ht hW => ⟨⟨g, rfl, (by unfold orU; rw [if_pos hH, if_neg h96, if_neg h166, if_neg (by first | exact fun z => h323 z.1 | exact fun z => h332 z.2)]), ⟨by rw [ht]; exact hP9, va_K.moved hW.alike hK9, hD9⟩⟩, hS.F ht⟩) hS.2.2 d_Mo_orderSection_335
              · have h166 : ln < 21 := Nat.not_le.mp (mt (nI_leI (a := 21) (by omega) (by omega)).mpr h166)
                have hP9 := hP.sub (ws' := [(h, .inr (13, mO r th si (nI ln) lv (nI ng) pn pl rs)), (r 15, .inl (cI, 1024, .inl se)), (r 20, .inl (cI, 4, .inl g.nu)), (r 21, .inl (cI, 4, .inl g.pi)), (r 22, .inl (cI, 4, .inl g.vs)), (r 23, .inl (cI, 4, .inl g.cp)), (r 24, .inl (cI, 4, .inl g.sc)), (r 25, .inl (cZ, 4, .inl g.aw)), (r 26, .inl (cJ, 4, .inr (.inl g.nw))), (r 27, .inl (cI, 4, .inl g.wt)), (r 28, .inl (cI, 16, .inl g.ty)), (r 29, .inl (cI, 16, .inl g.sp)), (r 30, .inl (cJ, 24, .inr (.inl g.z.1))), (r 31, .inl (cI, 24, .inl g.z.2.1)), (r 32, .inl (cZ, 24, .inl g.z.2.2.1)), (r 33, .inl (cJ, 24, .inr (.inl g.z.2.2.2)))]) [0, 1, 2, 3, 4, 5, 6, 7, 8, 9, 10, 11, 12, 13, 14, 15] rfl
                have hD9 := hD.sub (ws' := [(h, .inr (13, mO r th si (nI ln) lv (nI ng) pn pl rs)), (r 15, .inl (cI, 1024, .inl se)), (r 20, .inl (cI, 4, .inl g.nu)), (r 21, .inl (cI, 4, .inl g.pi)), (r 22, .inl (cI, 4, .inl g.vs)), (r 23, .inl (cI, 4, .inl g.cp)), (r 24, .inl (cI, 4, .inl g.sc)), (r 25, .inl (cZ, 4, .inl g.aw)), (r 26, .inl (cJ, 4, .inr (.inl g.nw))), (r 27, .inl (cI, 4, .inl g.wt)), (r 28, .inl (cI, 16, .inl g.ty)), (r 29, .inl (cI, 16, .inl g.sp)), (r 30, .inl (cJ, 24, .inr (.inl g.z.1))), (r 31, .inl (cI, 24, .inl g.z.2.1)), (r 32, .inl (cZ, 24, .inl g.z.2.2.1)), (r 33, .inl (cJ, 24, .inr (.inl g.z.2.2.2)))]) [0, 1, 2, 3, 4, 5, 6, 7, 8, 9, 10, 11, 12, 13, 14, 15] (by decide) rfl
                have hK9 := hK.sub (tys' := [(cI, .int), (cJ, .long), (cZ, .boolean)]) [0, 1, 2] rfl
                exact W.vret hx hb hr (fun t ht hW => ⟨⟨g, rfl, (by unfold orU; rw [if_pos hH, if_neg h96, if_pos h166]), ⟨by rw [ht]; exact hP9, va_K.moved hW.alike hK9, hD9⟩⟩, hS.F ht⟩) hS.2.2 d_Mo_orderSection_169
            · have h96 : 127 < se 18 := Int32.not_le.mp h96
              refine lv_iconst (v := 0) hx hb d_Mo_orderSection_99 (by decide) ?_
              refine lv_istore (lv' := [(6, .int 0), (5, .int (orN se)), (3, .long (mb_l se 39 33)), (2, .int (nI k)), (0, .ref h), (1, .int v)]) hx hb d_Mo_orderSection_100 hl (by decide) rfl (fun ls hl => ?_)
              refine lv_iconst (v := 0) hx hb d_Mo_orderSection_102 (by decide) ?_
              refine lv_istore (lv' := [(7, .int 0), (6, .int 0), (5, .int (orN se)), (3, .long (mb_l se 39 33)), (2, .int (nI k)), (0, .ref h), (1, .int v)]) hx hb d_Mo_orderSection_103 hl (by decide) rfl (fun ls hl => ?_)
              have loop105 : ∀ (N : Nat) (j : Nat) (y : OQ × Nat) (H : Heap) (locs : List Loc) (ls : Array Slot) (hm : w - j < N) (hj : j ≤ w) (hy : y = caU g.z k (orN se) j) (hyj : y.2 ≤ j) (hl : lv_has ls 16 [(0, .ref h), (2, .int (nI k)), (5, .int (orN se)), (6, .int (nI y.2)), (7, .int (nI j))]) (hP : va_P D classes [(h, .inr (13, mO r th si (nI ln) lv (nI ng) pn pl rs)), (r 15, .inl (cI, 1024, .inl se)), (r 20, .inl (cI, 4, .inl ((orZ g (y.1, g.wt)).nu))), (r 21, .inl (cI, 4, .inl ((orZ g (y.1, g.wt)).pi))), (r 22, .inl (cI, 4, .inl ((orZ g (y.1, g.wt)).vs))), (r 23, .inl (cI, 4, .inl ((orZ g (y.1, g.wt)).cp))), (r 24, .inl (cI, 4, .inl ((orZ g (y.1, g.wt)).sc))), (r 25, .inl (cZ, 4, .inl ((orZ g (y.1, g.wt)).aw))), (r 26, .inl (cJ, 4, .inr (.inl ((orZ g (y.1, g.wt)).nw)))), (r 27, .inl (cI, 4, .inl ((orZ g (y.1, g.wt)).wt))), (r 28, .inl (cI, 16, .inl ((orZ g (y.1, g.wt)).ty))), (r 29, .inl (cI, 16, .inl ((orZ g (y.1, g.wt)).sp))), (r 30, .inl (cJ, 24, .inr (.inl ((orZ g (y.1, g.wt)).z.1)))), (r 31, .inl (cI, 24, .inl ((orZ g (y.1, g.wt)).z.2.1))), (r 32, .inl (cZ, 24, .inl ((orZ g (y.1, g.wt)).z.2.2.1))), (r 33, .inl (cJ, 24, .inr (.inl ((orZ g (y.1, g.wt)).z.2.2.2))))] H) (hD : va_D A [(h, .inr (13, mO r th si (nI ln) lv (nI ng) pn pl rs)), (r 15, .inl (cI, 1024, .inl se)), (r 20, .inl (cI, 4, .inl ((orZ g (y.1, g.wt)).nu))), (r 21, .inl (cI, 4, .inl ((orZ g (y.1, g.wt)).pi))), (r 22, .inl (cI, 4, .inl ((orZ g (y.1, g.wt)).vs))), (r 23, .inl (cI, 4, .inl ((orZ g (y.1, g.wt)).cp))), (r 24, .inl (cI, 4, .inl ((orZ g (y.1, g.wt)).sc))), (r 25, .inl (cZ, 4, .inl ((orZ g (y.1, g.wt)).aw))), (r 26, .inl (cJ, 4, .inr (.inl ((orZ g (y.1, g.wt)).nw)))), (r 27, .inl (cI, 4, .inl ((orZ g (y.1, g.wt)).wt))), (r 28, .inl (cI, 16, .inl ((orZ g (y.1, g.wt)).ty))), (r 29, .inl (cI, 16, .inl ((orZ g (y.1, g.wt)).sp))), (r 30, .inl (cJ, 24, .inr (.inl ((orZ g (y.1, g.wt)).z.1)))), (r 31, .inl (cI, 24, .inl ((orZ g (y.1, g.wt)).z.2.1))), (r 32, .inl (cZ, 24, .inl ((orZ g (y.1, g.wt)).z.2.2.1))), (r 33, .inl (cJ, 24, .inr (.inl ((orZ g (y.1, g.wt)).z.2.2.2))))]) (hS : va_S A s.heap H locs), W p l e ({ frames := 3, cells := 0, slots := 0, locals := 82 }) s m ([.ref h, .int v]).toArray below meth cd H locs 0 0 (MQ below (va_Qv (fun (u : PG) => u = orU g se ln k w) (fun (u : PG) t => zW D (A) [(h, .inr (13, mO r th si (nI ln) lv (nI ng) pn pl rs)), (r 15, .inl (cI, 1024, .inl se)), (r 20, .inl (cI, 4, .inl u.nu)), (r 21, .inl (cI, 4, .inl u.pi)), (r 22, .inl (cI, 4, .inl u.vs)), (r 23, .inl (cI, 4, .inl u.cp)), (r 24, .inl (cI, 4, .inl u.sc)), (r 25, .inl (cZ, 4, .inl u.aw)), (r 26, .inl (cJ, 4, .inr (.inl u.nw))), (r 27, .inl (cI, 4, .inl u.wt)), (r 28, .inl (cI, 16, .inl u.ty)), (r 29, .inl (cI, 16, .inl u.sp)), (r 30, .inl (cJ, 24, .inr (.inl u.z.1))), (r 31, .inl (cI, 24, .inl u.z.2.1)), (r 32, .inl (cZ, 24, .inl u.z.2.2.1)), (r 33, .inl (cJ, 24, .inr (.inl u.z.2.2.2)))] [(cI, .int), (cJ, .long), (cZ, .boolean)] t) (A)) ([.ref h, .int v]).toArray s 0 0 (A)) (F0 m 105 ls []) := by
                intro N105
                induction N105 with
                | zero => intro j y H locs ls hm hj hy hyj hl hP hD hS; exact absurd hm (Nat.not_lt_zero _)
                | succ N105 ih105 =>
                  intro j y H locs ls hm hj hy hyj hl hP hD hS
                  refine lv_iload hx hb d_Mo_orderSection_105 (lv_at hl 4 rfl) ?_
                  refine lv_aload_n hx hb d_Mo_orderSection_107 rfl (lv_at hl 0 rfl) ?_
                  refine va_get (D := D) (ci := 13) (v := .ref (r 27)) (C := R_Mo) (T := F_Mo) (N := 54) hx hb hts i_Mo hown hK hP 0 rfl rfl 27 (by decide) (hts _ wd_1115) (fun _ h9 => h9) rfl d_Mo_orderSection_108 ?_
                  refine lv_iload_n hx hb d_Mo_orderSection_111 rfl (lv_at hl 1 rfl) ?_
                  refine z_iald hx hb hK hP 9 0 rfl rfl k rfl (by omega) (by omega) d_Mo_orderSection_112 ?_
                  refine z_topi (w := nI w) hw ?_
                  refine lv_icmp_ge (tgt := 151) hx hb d_Mo_orderSection_113 rfl (fun h113 => ?_) (fun h113 => ?_)
                  · have h113 := (nI_leI (by omega) (by omega)).mp h113
                    rw [show j = w by omega] at hy
                    refine lv_aload_n hx hb d_Mo_orderSection_151 rfl (lv_at hl 0 rfl) ?_
                    refine va_get (D := D) (ci := 13) (v := .ref (r 27)) (C := R_Mo) (T := F_Mo) (N := 54) hx hb hts i_Mo hown hK hP 0 rfl rfl 27 (by decide) (hts _ wd_1115) (fun _ h9 => h9) rfl d_Mo_orderSection_152 ?_
                    refine lv_iload_n hx hb d_Mo_orderSection_155 rfl (lv_at hl 1 rfl) ?_
                    refine lv_iload hx hb d_Mo_orderSection_156 (lv_at hl 3 rfl) ?_
                    refine z_iast hx hb hK hP hD hS 9 0 rfl rfl k rfl (by omega) (by omega) d_Mo_orderSection_158 (fun H locs hP hD hS => ?_)
                    have hP : va_P D classes [(h, .inr (13, mO r th si (nI ln) lv (nI ng) pn pl rs)), (r 15, .inl (cI, 1024, .inl se)), (r 20, .inl (cI, 4, .inl ((orZ g (y.1, g.wt)).nu))), (r 21, .inl (cI, 4, .inl ((orZ g (y.1, g.wt)).pi))), (r 22, .inl (cI, 4, .inl ((orZ g (y.1, g.wt)).vs))), (r 23, .inl (cI, 4, .inl ((orZ g (y.1, g.wt)).cp))), (r 24, .inl (cI, 4, .inl ((orZ g (y.1, g.wt)).sc))), (r 25, .inl (cZ, 4, .inl ((orZ g (y.1, g.wt)).aw))), (r 26, .inl (cJ, 4, .inr (.inl ((orZ g (y.1, g.wt)).nw)))), (r 27, .inl (cI, 4, .inl (upd ((orZ g (y.1, g.wt)).wt) k (nI y.2)))), (r 28, .inl (cI, 16, .inl ((orZ g (y.1, g.wt)).ty))), (r 29, .inl (cI, 16, .inl ((orZ g (y.1, g.wt)).sp))), (r 30, .inl (cJ, 24, .inr (.inl ((orZ g (y.1, g.wt)).z.1)))), (r 31, .inl (cI, 24, .inl ((orZ g (y.1, g.wt)).z.2.1))), (r 32, .inl (cZ, 24, .inl ((orZ g (y.1, g.wt)).z.2.2.1))), (r 33, .inl (cJ, 24, .inr (.inl ((orZ g (y.1, g.wt)).z.2.2.2))))] H := hP
                    have hD : va_D A [(h, .inr (13, mO r th si (nI ln) lv (nI ng) pn pl rs)), (r 15, .inl (cI, 1024, .inl se)), (r 20, .inl (cI, 4, .inl ((orZ g (y.1, g.wt)).nu))), (r 21, .inl (cI, 4, .inl ((orZ g (y.1, g.wt)).pi))), (r 22, .inl (cI, 4, .inl ((orZ g (y.1, g.wt)).vs))), (r 23, .inl (cI, 4, .inl ((orZ g (y.1, g.wt)).cp))), (r 24, .inl (cI, 4, .inl ((orZ g (y.1, g.wt)).sc))), (r 25, .inl (cZ, 4, .inl ((orZ g (y.1, g.wt)).aw))), (r 26, .inl (cJ, 4, .inr (.inl ((orZ g (y.1, g.wt)).nw)))), (r 27, .inl (cI, 4, .inl (upd ((orZ g (y.1, g.wt)).wt) k (nI y.2)))), (r 28, .inl (cI, 16, .inl ((orZ g (y.1, g.wt)).ty))), (r 29, .inl (cI, 16, .inl ((orZ g (y.1, g.wt)).sp))), (r 30, .inl (cJ, 24, .inr (.inl ((orZ g (y.1, g.wt)).z.1)))), (r 31, .inl (cI, 24, .inl ((orZ g (y.1, g.wt)).z.2.1))), (r 32, .inl (cZ, 24, .inl ((orZ g (y.1, g.wt)).z.2.2.1))), (r 33, .inl (cJ, 24, .inr (.inl ((orZ g (y.1, g.wt)).z.2.2.2))))] := hD
                    have hP9 := hP.sub (ws' := [(h, .inr (13, mO r th si (nI ln) lv (nI ng) pn pl rs)), (r 15, .inl (cI, 1024, .inl se)), (r 20, .inl (cI, 4, .inl ((orZ g (y.1, g.wt)).nu))), (r 21, .inl (cI, 4, .inl ((orZ g (y.1, g.wt)).pi))), (r 22, .inl (cI, 4, .inl ((orZ g (y.1, g.wt)).vs))), (r 23, .inl (cI, 4, .inl ((orZ g (y.1, g.wt)).cp))), (r 24, .inl (cI, 4, .inl ((orZ g (y.1, g.wt)).sc))), (r 25, .inl (cZ, 4, .inl ((orZ g (y.1, g.wt)).aw))), (r 26, .inl (cJ, 4, .inr (.inl ((orZ g (y.1, g.wt)).nw)))), (r 27, .inl (cI, 4, .inl (upd ((orZ g (y.1, g.wt)).wt) k (nI y.2)))), (r 28, .inl (cI, 16, .inl ((orZ g (y.1, g.wt)).ty))), (r 29, .inl (cI, 16, .inl ((orZ g (y.1, g.wt)).sp))), (r 30, .inl (cJ, 24, .inr (.inl ((orZ g (y.1, g.wt)).z.1)))), (r 31, .inl (cI, 24, .inl ((orZ g (y.1, g.wt)).z.2.1))), (r 32, .inl (cZ, 24, .inl ((orZ g (y.1, g.wt)).z.2.2.1))), (r 33, .inl (cJ, 24, .inr (.inl ((orZ g (y.1, g.wt)).z.2.2.2))))]) [0, 1, 2, 3, 4, 5, 6, 7, 8, 9, 10, 11, 12, 13, 14, 15] rfl
                    have hD9 := hD.sub (ws' := [(h, .inr (13, mO r th si (nI ln) lv (nI ng) pn pl rs)), (r 15, .inl (cI, 1024, .inl se)), (r 20, .inl (cI, 4, .inl ((orZ g (y.1, g.wt)).nu))), (r 21, .inl (cI, 4, .inl ((orZ g (y.1, g.wt)).pi))), (r 22, .inl (cI, 4, .inl ((orZ g (y.1, g.wt)).vs))), (r 23, .inl (cI, 4, .inl ((orZ g (y.1, g.wt)).cp))), (r 24, .inl (cI, 4, .inl ((orZ g (y.1, g.wt)).sc))), (r 25, .inl (cZ, 4, .inl ((orZ g (y.1, g.wt)).aw))), (r 26, .inl (cJ, 4, .inr (.inl ((orZ g (y.1, g.wt)).nw)))), (r 27, .inl (cI, 4, .inl (upd ((orZ g (y.1, g.wt)).wt) k (nI y.2)))), (r 28, .inl (cI, 16, .inl ((orZ g (y.1, g.wt)).ty))), (r 29, .inl (cI, 16, .inl ((orZ g (y.1, g.wt)).sp))), (r 30, .inl (cJ, 24, .inr (.inl ((orZ g (y.1, g.wt)).z.1)))), (r 31, .inl (cI, 24, .inl ((orZ g (y.1, g.wt)).z.2.1))), (r 32, .inl (cZ, 24, .inl ((orZ g (y.1, g.wt)).z.2.2.1))), (r 33, .inl (cJ, 24, .inr (.inl ((orZ g (y.1, g.wt)).z.2.2.2))))]) [0, 1, 2, 3, 4, 5, 6, 7, 8, 9, 10, 11, 12, 13, 14, 15] (by decide) rfl
                    have hK9 := hK.sub (tys' := [(cI, .int), (cJ, .long), (cZ, .boolean)]) [0, 1, 2] rfl
                    exact W.vret hx hb hr (fun t ht hW => ⟨⟨orZ g (y.1, upd g.wt k (nI y.2)), rfl, (by unfold orU; rw [if_pos hH, if_pos h96, ← hy]), ⟨by rw [ht]; exact hP9, va_K.moved hW.alike hK9, hD9⟩⟩, hS.F ht⟩) hS.2.2 d_Mo_orderSection_159
                  · have h113 := mt (nI_leI (by omega) (by omega)).mpr h113
                    refine lv_aload_n hx hb d_Mo_orderSection_116 rfl (lv_at hl 0 rfl) ?_
                    refine va_get (D := D) (ci := 13) (v := .ref (r 31)) (C := R_Mo) (T := F_Mo) (N := 54) hx hb hts i_Mo hown hK hP 0 rfl rfl 31 (by decide) (hts _ wd_1119) (fun _ h9 => h9) rfl d_Mo_orderSection_117 ?_
                    refine lv_bipush (v := 6) hx hb d_Mo_orderSection_120 (by decide) ?_
                    refine lv_iload_n hx hb d_Mo_orderSection_122 rfl (lv_at hl 1 rfl) ?_
                    refine lv_imul hx hb d_Mo_orderSection_123 ?_
                    refine z_topi (w := nI (6 * k)) (pk_mul 6 _) ?_
                    refine lv_iload hx hb d_Mo_orderSection_124 (lv_at hl 4 rfl) ?_
                    refine lv_iadd hx hb d_Mo_orderSection_126 ?_
                    refine z_topi (w := nI (6 * k + j)) (nI_add _ _) ?_
                    refine z_iald hx hb hK hP 13 0 rfl rfl (6 * k + j) rfl (by omega) (by omega) d_Mo_orderSection_127 ?_
                    refine z_topi (w := y.1.2.1 (6 * k + j)) rfl ?_
                    refine lv_iload hx hb d_Mo_orderSection_128 (lv_at hl 2 rfl) ?_
                    refine lv_icmp_eq (tgt := 145) hx hb d_Mo_orderSection_130 rfl (fun h130 => ?_) (fun h130 => ?_)
                    · refine lv_iinc (k := 4) (v := nI (j + 1)) (lv' := [(7, .int (nI (j + 1))), (0, .ref h), (2, .int (nI k)), (5, .int (orN se)), (6, .int (nI y.2))]) hx hb d_Mo_orderSection_145 hl rfl (nI_1 j) (by decide) rfl (fun ls hl => ?_)
                      refine lv_goto (tgt := 105) hx hb d_Mo_orderSection_148 rfl ?_
                      exact ih105 (j + 1) y H locs ls (by omega) (by omega) (by rw [caU, ← hy, if_pos h130]) (by omega) (lv_sub hl [1, 2, 3, 4, 0] rfl) hP hD hS
                    · refine lv_aload_n hx hb d_Mo_orderSection_133 rfl (lv_at hl 0 rfl) ?_
                      refine lv_iload_n hx hb d_Mo_orderSection_134 rfl (lv_at hl 1 rfl) ?_
                      refine lv_iload hx hb d_Mo_orderSection_135 (lv_at hl 4 rfl) ?_
                      refine lv_iload hx hb d_Mo_orderSection_137 (lv_at hl 3 rfl) ?_
                      have hPc := hP.sub (ws' := [(h, .inr (13, mO r th si (nI ln) lv (nI ng) pn pl rs)), (r 30, .inl (cJ, 24, .inr (.inl y.1.1))), (r 31, .inl (cI, 24, .inl y.1.2.1)), (r 32, .inl (cZ, 24, .inl y.1.2.2.1)), (r 33, .inl (cJ, 24, .inr (.inl y.1.2.2.2)))]) [0, 12, 13, 14, 15] rfl
                      have hKc := hK.sub (tys' := [(cI, .int), (cJ, .long), (cZ, .boolean)]) [0, 1, 2] rfl
                      have hDc := hD.sub (ws' := [(h, .inr (13, mO r th si (nI ln) lv (nI ng) pn pl rs)), (r 30, .inl (cJ, 24, .inr (.inl y.1.1))), (r 31, .inl (cI, 24, .inl y.1.2.1)), (r 32, .inl (cZ, 24, .inl y.1.2.2.1)), (r 33, .inl (cJ, 24, .inr (.inl y.1.2.2.2)))]) [0, 12, 13, 14, 15] (by decide) rfl
                      have hFc := va_free (wc := [(h, .inr (13, mO r th si (nI ln) lv (nI ng) pn pl rs)), (r 30, .inl (cJ, 24, .inr (.inl y.1.1))), (r 31, .inl (cI, 24, .inl y.1.2.1)), (r 32, .inl (cZ, 24, .inl y.1.2.2.1)), (r 33, .inl (cJ, 24, .inr (.inl y.1.2.2.2)))]) hD hS hA [0, 12, 13, 14, 15] rfl
                      refine va_callv (va_runV (As := [.int (nI k), .int (nI j), .int (nI y.2)]) (rest := []) ⟨hx, hb, hml, hown, hts⟩ (c_Mo_moveOrder l D H.size cI h r th si (nI ln) lv (nI ng) pn pl rs cJ cZ y.1 k j y.2 hk (by omega) (by omega)) (z_cV hN wd_1340 wd_67 wd_1337 hd_Mo_moveOrder rfl rfl ⟨Nat.le_of_ble_eq_true rfl, Nat.le_of_ble_eq_true rfl⟩ wd_1339 wd_39) (z_preVm (va_recv (ci := 13) (q0 := 0) hK hP rfl rfl) hPc hKc hN hDc) rfl rfl hl.1 rfl (lv_room (Nat.le_of_ble_eq_true rfl)) d_Mo_orderSection_139 ⟨Nat.le_of_ble_eq_true rfl, Nat.le_of_ble_eq_true rfl⟩) hS (fun q _ h => hFc q h) hFc (fun z139 t H locs ht hvm e139 hB hz1 hk1 hS => ?_)
                      obtain ⟨hP1, hK1, hD1⟩ := hB
                      rw [ht] at hP1
                      obtain ⟨hP, hD⟩ := va_join (wr := [(r 15, .inl (cI, 1024, .inl se)), (r 20, .inl (cI, 4, .inl ((orZ g (y.1, g.wt)).nu))), (r 21, .inl (cI, 4, .inl ((orZ g (y.1, g.wt)).pi))), (r 22, .inl (cI, 4, .inl ((orZ g (y.1, g.wt)).vs))), (r 23, .inl (cI, 4, .inl ((orZ g (y.1, g.wt)).cp))), (r 24, .inl (cI, 4, .inl ((orZ g (y.1, g.wt)).sc))), (r 25, .inl (cZ, 4, .inl ((orZ g (y.1, g.wt)).aw))), (r 26, .inl (cJ, 4, .inr (.inl ((orZ g (y.1, g.wt)).nw)))), (r 27, .inl (cI, 4, .inl ((orZ g (y.1, g.wt)).wt))), (r 28, .inl (cI, 16, .inl ((orZ g (y.1, g.wt)).ty))), (r 29, .inl (cI, 16, .inl ((orZ g (y.1, g.wt)).sp)))]) (w1 := [(h, .inr (13, mO r th si (nI ln) lv (nI ng) pn pl rs)), (r 30, .inl (cJ, 24, .inr (.inl z139.1))), (r 31, .inl (cI, 24, .inl z139.2.1)), (r 32, .inl (cZ, 24, .inl z139.2.2.1)), (r 33, .inl (cJ, 24, .inr (.inl z139.2.2.2)))]) hP hD [0, 12, 13, 14, 15] [1, 2, 3, 4, 5, 6, 7, 8, 9, 10, 11] rfl rfl (by decide) (by decide) hk1 hFc hP1 hD1
                      clear hk1 hP1 hD1 hFc hPc hDc hz1
                      have hP : va_P D classes [(r 15, .inl (cI, 1024, .inl se)), (r 20, .inl (cI, 4, .inl ((orZ g (y.1, g.wt)).nu))), (r 21, .inl (cI, 4, .inl ((orZ g (y.1, g.wt)).pi))), (r 22, .inl (cI, 4, .inl ((orZ g (y.1, g.wt)).vs))), (r 23, .inl (cI, 4, .inl ((orZ g (y.1, g.wt)).cp))), (r 24, .inl (cI, 4, .inl ((orZ g (y.1, g.wt)).sc))), (r 25, .inl (cZ, 4, .inl ((orZ g (y.1, g.wt)).aw))), (r 26, .inl (cJ, 4, .inr (.inl ((orZ g (y.1, g.wt)).nw)))), (r 27, .inl (cI, 4, .inl ((orZ g (y.1, g.wt)).wt))), (r 28, .inl (cI, 16, .inl ((orZ g (y.1, g.wt)).ty))), (r 29, .inl (cI, 16, .inl ((orZ g (y.1, g.wt)).sp))), (h, .inr (13, mO r th si (nI ln) lv (nI ng) pn pl rs)), (r 30, .inl (cJ, 24, .inr (.inl z139.1))), (r 31, .inl (cI, 24, .inl z139.2.1)), (r 32, .inl (cZ, 24, .inl z139.2.2.1)), (r 33, .inl (cJ, 24, .inr (.inl z139.2.2.2)))] H := hP
                      have hD : va_D A [(r 15, .inl (cI, 1024, .inl se)), (r 20, .inl (cI, 4, .inl ((orZ g (y.1, g.wt)).nu))), (r 21, .inl (cI, 4, .inl ((orZ g (y.1, g.wt)).pi))), (r 22, .inl (cI, 4, .inl ((orZ g (y.1, g.wt)).vs))), (r 23, .inl (cI, 4, .inl ((orZ g (y.1, g.wt)).cp))), (r 24, .inl (cI, 4, .inl ((orZ g (y.1, g.wt)).sc))), (r 25, .inl (cZ, 4, .inl ((orZ g (y.1, g.wt)).aw))), (r 26, .inl (cJ, 4, .inr (.inl ((orZ g (y.1, g.wt)).nw)))), (r 27, .inl (cI, 4, .inl ((orZ g (y.1, g.wt)).wt))), (r 28, .inl (cI, 16, .inl ((orZ g (y.1, g.wt)).ty))), (r 29, .inl (cI, 16, .inl ((orZ g (y.1, g.wt)).sp))), (h, .inr (13, mO r th si (nI ln) lv (nI ng) pn pl rs)), (r 30, .inl (cJ, 24, .inr (.inl z139.1))), (r 31, .inl (cI, 24, .inl z139.2.1)), (r 32, .inl (cZ, 24, .inl z139.2.2.1)), (r 33, .inl (cJ, 24, .inr (.inl z139.2.2.2)))] := hD
                      refine lv_iinc (k := 3) (v := nI (y.2 + 1)) (lv' := [(6, .int (nI (y.2 + 1))), (0, .ref h), (2, .int (nI k)), (5, .int (orN se)), (7, .int (nI j))]) hx hb d_Mo_orderSection_142 hl rfl (nI_1 _) (by decide) rfl (fun ls hl => ?_)
                      refine lv_iinc (k := 4) (v := nI (j + 1)) (lv' := [(7, .int (nI (j + 1))), (6, .int (nI (y.2 + 1))), (0, .ref h), (2, .int (nI k)), (5, .int (orN se))]) hx hb d_Mo_orderSection_145 hl rfl (nI_1 j) (by decide) rfl (fun ls hl => ?_)
                      refine lv_goto (tgt := 105) hx hb d_Mo_orderSection_148 rfl ?_
                      exact ih105 (j + 1) (z139, y.2 + 1) H locs ls (by omega) (by omega) (by rw [caU, ← hy, if_neg h130, e139]) (by show y.2 + 1 ≤ j + 1; omega) (lv_sub hl [2, 3, 4, 1, 0] rfl) (hP.sub [11, 0, 1, 2, 3, 4, 5, 6, 7, 8, 9, 10, 12, 13, 14, 15] rfl) (hD.sub [11, 0, 1, 2, 3, 4, 5, 6, 7, 8, 9, 10, 12, 13, 14, 15] (by decide) rfl) hS
              exact loop105 _ 0 (g.z, 0) s.heap [] ls (Nat.lt_succ_self _) (Nat.zero_le _) rfl (Nat.le_refl _) (lv_sub hl [5, 4, 2, 1, 0] rfl) hP hD hS
          · have hP9 := hP.sub (ws' := [(h, .inr (13, mO r th si (nI ln) lv (nI ng) pn pl rs)), (r 15, .inl (cI, 1024, .inl se)), (r 20, .inl (cI, 4, .inl g.nu)), (r 21, .inl (cI, 4, .inl g.pi)), (r 22, .inl (cI, 4, .inl g.vs)), (r 23, .inl (cI, 4, .inl g.cp)), (r 24, .inl (cI, 4, .inl g.sc)), (r 25, .inl (cZ, 4, .inl g.aw)), (r 26, .inl (cJ, 4, .inr (.inl g.nw))), (r 27, .inl (cI, 4, .inl g.wt)), (r 28, .inl (cI, 16, .inl g.ty)), (r 29, .inl (cI, 16, .inl g.sp)), (r 30, .inl (cJ, 24, .inr (.inl g.z.1))), (r 31, .inl (cI, 24, .inl g.z.2.1)), (r 32, .inl (cZ, 24, .inl g.z.2.2.1)), (r 33, .inl (cJ, 24, .inr (.inl g.z.2.2.2)))]) [0, 1, 2, 3, 4, 5, 6, 7, 8, 9, 10, 11, 12, 13, 14, 15] rfl
            have hD9 := hD.sub (ws' := [(h, .inr (13, mO r th si (nI ln) lv (nI ng) pn pl rs)), (r 15, .inl (cI, 1024, .inl se)), (r 20, .inl (cI, 4, .inl g.nu)), (r 21, .inl (cI, 4, .inl g.pi)), (r 22, .inl (cI, 4, .inl g.vs)), (r 23, .inl (cI, 4, .inl g.cp)), (r 24, .inl (cI, 4, .inl g.sc)), (r 25, .inl (cZ, 4, .inl g.aw)), (r 26, .inl (cJ, 4, .inr (.inl g.nw))), (r 27, .inl (cI, 4, .inl g.wt)), (r 28, .inl (cI, 16, .inl g.ty)), (r 29, .inl (cI, 16, .inl g.sp)), (r 30, .inl (cJ, 24, .inr (.inl g.z.1))), (r 31, .inl (cI, 24, .inl g.z.2.1)), (r 32, .inl (cZ, 24, .inl g.z.2.2.1)), (r 33, .inl (cJ, 24, .inr (.inl g.z.2.2.2)))]) [0, 1, 2, 3, 4, 5, 6, 7, 8, 9, 10, 11, 12, 13, 14, 15] (by decide) rfl
            have hK9 := hK.sub (tys' := [(cI, .int), (cJ, .long), (cZ, .boolean)]) [0, 1, 2] rfl
            exact W.vret hx hb hr (fun t ht hW => ⟨⟨g, rfl, (by unfold orU; rw [if_neg (by first | exact fun z => h17 z.1 | exact fun z => absurd z.2.1 (by omega) | exact fun z => h35 z.2.2.1 | exact fun z => z.2.2.2.1 h46 | exact fun z => h57 z.2.2.2.2)]), ⟨by rw [ht]; exact hP9, va_K.moved hW.alike hK9, hD9⟩⟩, hS.F ht⟩) hS.2.2 d_Mo_orderSection_60
