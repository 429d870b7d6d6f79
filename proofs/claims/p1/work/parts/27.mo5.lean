theorem wd_56 : (Jvm.Cond.selects "StreamSplitterModel" ({ cls := "StreamSplitterModel", name := "sealRow", desc := "(I)V" } : Jvm.MethodName) ({ cls := "StreamSplitterModel", name := "sealRow", desc := "(I)V" } : Jvm.MethodName)) ∈ lw_ok := List.mem_filter.mpr ⟨List.mem_of_getElem? (i := 56) (by decide +kernel), rfl⟩
theorem wd_1454 : (Jvm.Cond.methodLink "StreamSplitterModel" (297 : Nat) ({ cls := "StreamSplitterModel", name := "sealRow", desc := "(I)V" } : Jvm.MethodName)) ∈ lw_ok := List.mem_filter.mpr ⟨List.mem_of_getElem? (i := 1454) (by decide +kernel), rfl⟩
theorem wd_1456 : (Jvm.Cond.instanceMethod ({ cls := "StreamSplitterModel", name := "sealRow", desc := "(I)V" } : Jvm.MethodName)) ∈ lw_ok := List.mem_filter.mpr ⟨List.mem_of_getElem? (i := 1456) (by decide +kernel), rfl⟩
set_option maxRecDepth 100000 in
theorem wd_1457 : (Jvm.Cond.code ({ cls := "StreamSplitterModel", name := "sealRow", desc := "(I)V" } : Jvm.MethodName) prog_14_method_47_code (4 : Nat) (Option.none : Option Jvm.ClassFile.FieldType)) ∈ lw_ok := List.mem_filter.mpr ⟨List.mem_of_getElem? (i := 1457) (by rfl), rfl⟩
theorem wd_1477 : (Jvm.Cond.constantLong "StreamSplitterModel" (315 : Nat) (252 : Int64)) ∈ lw_ok := List.mem_filter.mpr ⟨List.mem_of_getElem? (i := 1477) (by decide +kernel), rfl⟩
theorem wd_1478 : (Jvm.Cond.constantLong "StreamSplitterModel" (317 : Nat) (541165879296 : Int64)) ∈ lw_ok := List.mem_filter.mpr ⟨List.mem_of_getElem? (i := 1478) (by decide +kernel), rfl⟩
theorem wd_1479 : (Jvm.Cond.constantLong "StreamSplitterModel" (319 : Nat) (5 : Int64)) ∈ lw_ok := List.mem_filter.mpr ⟨List.mem_of_getElem? (i := 1479) (by decide +kernel), rfl⟩
theorem wd_1480 : (Jvm.Cond.constantLong "StreamSplitterModel" (321 : Nat) (127 : Int64)) ∈ lw_ok := List.mem_filter.mpr ⟨List.mem_of_getElem? (i := 1480) (by decide +kernel), rfl⟩
theorem wd_1481 : (Jvm.Cond.constantLong "StreamSplitterModel" (323 : Nat) (1090921693184 : Int64)) ∈ lw_ok := List.mem_filter.mpr ⟨List.mem_of_getElem? (i := 1481) (by decide +kernel), rfl⟩
theorem wd_1482 : (Jvm.Cond.constantLong "StreamSplitterModel" (325 : Nat) (8589934591 : Int64)) ∈ lw_ok := List.mem_filter.mpr ⟨List.mem_of_getElem? (i := 1482) (by decide +kernel), rfl⟩
theorem hd_Mo_sealRow : y_Mo_sealRow.cls ≠ "java/lang/invoke/MethodHandle" ∧ y_Mo_sealRow.cls ≠ "java/lang/invoke/VarHandle" ∧ (parseMethodDescriptor y_Mo_sealRow.desc).map (fun d => d.parameters.length) = some 1 := by decide +kernel
theorem d_Mo_writeOrder_0 : decode b_Mo_writeOrder 0 = .ok (.aload_n 0, 1) := by decide +kernel
theorem d_Mo_writeOrder_1 : decode b_Mo_writeOrder 1 = .ok (.iload_n 1, 1) := by decide +kernel
theorem d_Mo_writeOrder_2 : decode b_Mo_writeOrder 2 = .ok (.ifCond .lt 43, 3) := by decide +kernel
theorem d_Mo_writeOrder_5 : decode b_Mo_writeOrder 5 = .ok (.iload_n 1, 1) := by decide +kernel
theorem d_Mo_writeOrder_6 : decode b_Mo_writeOrder 6 = .ok (.sipush 8191, 3) := by decide +kernel
theorem d_Mo_writeOrder_9 : decode b_Mo_writeOrder 9 = .ok (.if_icmp .gt 36, 3) := by decide +kernel
theorem d_Mo_writeOrder_12 : decode b_Mo_writeOrder 12 = .ok (.iload_n 3, 1) := by decide +kernel
theorem d_Mo_writeOrder_13 : decode b_Mo_writeOrder 13 = .ok (.ifCond .lt 32, 3) := by decide +kernel
theorem d_Mo_writeOrder_16 : decode b_Mo_writeOrder 16 = .ok (.iload_n 3, 1) := by decide +kernel
theorem d_Mo_writeOrder_17 : decode b_Mo_writeOrder 17 = .ok (.bipush 63, 2) := by decide +kernel
theorem d_Mo_writeOrder_19 : decode b_Mo_writeOrder 19 = .ok (.if_icmp .gt 26, 3) := by decide +kernel
theorem d_Mo_writeOrder_22 : decode b_Mo_writeOrder 22 = .ok (.lload 4, 2) := by decide +kernel
theorem d_Mo_writeOrder_24 : decode b_Mo_writeOrder 24 = .ok (.lconst 0, 1) := by decide +kernel
theorem d_Mo_writeOrder_25 : decode b_Mo_writeOrder 25 = .ok (.lcmp, 1) := by decide +kernel
theorem d_Mo_writeOrder_26 : decode b_Mo_writeOrder 26 = .ok (.ifCond .lt 19, 3) := by decide +kernel
theorem d_Mo_writeOrder_29 : decode b_Mo_writeOrder 29 = .ok (.lload 4, 2) := by decide +kernel
theorem d_Mo_writeOrder_31 : decode b_Mo_writeOrder 31 = .ok (.ldc2_w 241, 3) := by decide +kernel
theorem d_Mo_writeOrder_34 : decode b_Mo_writeOrder 34 = .ok (.lcmp, 1) := by decide +kernel
theorem d_Mo_writeOrder_35 : decode b_Mo_writeOrder 35 = .ok (.ifCond .ge 10, 3) := by decide +kernel
theorem d_Mo_writeOrder_38 : decode b_Mo_writeOrder 38 = .ok (.lload 6, 2) := by decide +kernel
theorem d_Mo_writeOrder_40 : decode b_Mo_writeOrder 40 = .ok (.lconst 0, 1) := by decide +kernel
theorem d_Mo_writeOrder_41 : decode b_Mo_writeOrder 41 = .ok (.lcmp, 1) := by decide +kernel
theorem d_Mo_writeOrder_42 : decode b_Mo_writeOrder 42 = .ok (.ifCond .ge 7, 3) := by decide +kernel
theorem d_Mo_writeOrder_45 : decode b_Mo_writeOrder 45 = .ok (.iconst 1, 1) := by decide +kernel
theorem d_Mo_writeOrder_46 : decode b_Mo_writeOrder 46 = .ok (.goto 4, 3) := by decide +kernel
theorem d_Mo_writeOrder_49 : decode b_Mo_writeOrder 49 = .ok (.iconst 0, 1) := by decide +kernel
theorem d_Mo_writeOrder_50 : decode b_Mo_writeOrder 50 = .ok (.putfield 156, 3) := by decide +kernel
theorem d_Mo_writeOrder_53 : decode b_Mo_writeOrder 53 = .ok (.aload_n 0, 1) := by decide +kernel
theorem d_Mo_writeOrder_54 : decode b_Mo_writeOrder 54 = .ok (.getfield 156, 3) := by decide +kernel
theorem d_Mo_writeOrder_57 : decode b_Mo_writeOrder 57 = .ok (.ifCond .le 5, 3) := by decide +kernel
theorem d_Mo_writeOrder_60 : decode b_Mo_writeOrder 60 = .ok (.iconst 0, 1) := by decide +kernel
theorem d_Mo_writeOrder_61 : decode b_Mo_writeOrder 61 = .ok (.ireturn, 1) := by decide +kernel
theorem d_Mo_writeOrder_62 : decode b_Mo_writeOrder 62 = .ok (.aload_n 0, 1) := by decide +kernel
theorem d_Mo_writeOrder_63 : decode b_Mo_writeOrder 63 = .ok (.sipush 184, 3) := by decide +kernel
theorem d_Mo_writeOrder_66 : decode b_Mo_writeOrder 66 = .ok (.invokevirtual 289, 3) := by decide +kernel
theorem d_Mo_writeOrder_69 : decode b_Mo_writeOrder 69 = .ok (.ifCond .ne 5, 3) := by decide +kernel
theorem d_Mo_writeOrder_72 : decode b_Mo_writeOrder 72 = .ok (.iconst (-1), 1) := by decide +kernel
theorem d_Mo_writeOrder_73 : decode b_Mo_writeOrder 73 = .ok (.ireturn, 1) := by decide +kernel
theorem d_Mo_writeOrder_74 : decode b_Mo_writeOrder 74 = .ok (.iload_n 3, 1) := by decide +kernel
theorem d_Mo_writeOrder_75 : decode b_Mo_writeOrder 75 = .ok (.iconst 2, 1) := by decide +kernel
theorem d_Mo_writeOrder_76 : decode b_Mo_writeOrder 76 = .ok (.ishr, 1) := by decide +kernel
theorem d_Mo_writeOrder_77 : decode b_Mo_writeOrder 77 = .ok (.iconst 1, 1) := by decide +kernel
theorem d_Mo_writeOrder_78 : decode b_Mo_writeOrder 78 = .ok (.iand, 1) := by decide +kernel
theorem d_Mo_writeOrder_79 : decode b_Mo_writeOrder 79 = .ok (.iconst 1, 1) := by decide +kernel
theorem d_Mo_writeOrder_80 : decode b_Mo_writeOrder 80 = .ok (.if_icmp .ne 7, 3) := by decide +kernel
theorem d_Mo_writeOrder_83 : decode b_Mo_writeOrder 83 = .ok (.iconst 1, 1) := by decide +kernel
theorem d_Mo_writeOrder_84 : decode b_Mo_writeOrder 84 = .ok (.goto 4, 3) := by decide +kernel
theorem d_Mo_writeOrder_87 : decode b_Mo_writeOrder 87 = .ok (.iconst 0, 1) := by decide +kernel
theorem d_Mo_writeOrder_88 : decode b_Mo_writeOrder 88 = .ok (.istore 8, 2) := by decide +kernel
theorem d_Mo_writeOrder_90 : decode b_Mo_writeOrder 90 = .ok (.aload_n 0, 1) := by decide +kernel
theorem d_Mo_writeOrder_91 : decode b_Mo_writeOrder 91 = .ok (.iconst 0, 1) := by decide +kernel
theorem d_Mo_writeOrder_92 : decode b_Mo_writeOrder 92 = .ok (.putfield 280, 3) := by decide +kernel
theorem d_Mo_writeOrder_95 : decode b_Mo_writeOrder 95 = .ok (.aload_n 0, 1) := by decide +kernel
theorem d_Mo_writeOrder_96 : decode b_Mo_writeOrder 96 = .ok (.lconst 0, 1) := by decide +kernel
theorem d_Mo_writeOrder_97 : decode b_Mo_writeOrder 97 = .ok (.iconst 1, 1) := by decide +kernel
theorem d_Mo_writeOrder_98 : decode b_Mo_writeOrder 98 = .ok (.invokevirtual 283, 3) := by decide +kernel
theorem d_Mo_writeOrder_101 : decode b_Mo_writeOrder 101 = .ok (.aload_n 0, 1) := by decide +kernel
theorem d_Mo_writeOrder_102 : decode b_Mo_writeOrder 102 = .ok (.ldc2_w 315, 3) := by decide +kernel
theorem d_Mo_writeOrder_105 : decode b_Mo_writeOrder 105 = .ok (.iconst 1, 1) := by decide +kernel
theorem d_Mo_writeOrder_106 : decode b_Mo_writeOrder 106 = .ok (.invokevirtual 283, 3) := by decide +kernel
theorem d_Mo_writeOrder_109 : decode b_Mo_writeOrder 109 = .ok (.aload_n 0, 1) := by decide +kernel
theorem d_Mo_writeOrder_110 : decode b_Mo_writeOrder 110 = .ok (.lconst 0, 1) := by decide +kernel
theorem d_Mo_writeOrder_111 : decode b_Mo_writeOrder 111 = .ok (.iconst 2, 1) := by decide +kernel
theorem d_Mo_writeOrder_112 : decode b_Mo_writeOrder 112 = .ok (.invokevirtual 283, 3) := by decide +kernel
theorem d_Mo_writeOrder_115 : decode b_Mo_writeOrder 115 = .ok (.aload_n 0, 1) := by decide +kernel
theorem d_Mo_writeOrder_116 : decode b_Mo_writeOrder 116 = .ok (.lconst 0, 1) := by decide +kernel
theorem d_Mo_writeOrder_117 : decode b_Mo_writeOrder 117 = .ok (.iconst 1, 1) := by decide +kernel
theorem d_Mo_writeOrder_118 : decode b_Mo_writeOrder 118 = .ok (.invokevirtual 283, 3) := by decide +kernel
theorem d_Mo_writeOrder_121 : decode b_Mo_writeOrder 121 = .ok (.aload_n 0, 1) := by decide +kernel
theorem d_Mo_writeOrder_122 : decode b_Mo_writeOrder 122 = .ok (.ldc2_w 317, 3) := by decide +kernel
theorem d_Mo_writeOrder_125 : decode b_Mo_writeOrder 125 = .ok (.lload 6, 2) := by decide +kernel
theorem d_Mo_writeOrder_127 : decode b_Mo_writeOrder 127 = .ok (.bipush 33, 2) := by decide +kernel
theorem d_Mo_writeOrder_129 : decode b_Mo_writeOrder 129 = .ok (.lshr, 1) := by decide +kernel
theorem d_Mo_writeOrder_130 : decode b_Mo_writeOrder 130 = .ok (.lor, 1) := by decide +kernel
theorem d_Mo_writeOrder_131 : decode b_Mo_writeOrder 131 = .ok (.iconst 5, 1) := by decide +kernel
theorem d_Mo_writeOrder_132 : decode b_Mo_writeOrder 132 = .ok (.invokevirtual 283, 3) := by decide +kernel
theorem d_Mo_writeOrder_135 : decode b_Mo_writeOrder 135 = .ok (.aload_n 0, 1) := by decide +kernel
theorem d_Mo_writeOrder_136 : decode b_Mo_writeOrder 136 = .ok (.ldc2_w 274, 3) := by decide +kernel
theorem d_Mo_writeOrder_139 : decode b_Mo_writeOrder 139 = .ok (.iconst 4, 1) := by decide +kernel
theorem d_Mo_writeOrder_140 : decode b_Mo_writeOrder 140 = .ok (.invokevirtual 283, 3) := by decide +kernel
theorem d_Mo_writeOrder_143 : decode b_Mo_writeOrder 143 = .ok (.aload_n 0, 1) := by decide +kernel
theorem d_Mo_writeOrder_144 : decode b_Mo_writeOrder 144 = .ok (.ldc2_w 319, 3) := by decide +kernel
theorem d_Mo_writeOrder_147 : decode b_Mo_writeOrder 147 = .ok (.iconst 1, 1) := by decide +kernel
theorem d_Mo_writeOrder_148 : decode b_Mo_writeOrder 148 = .ok (.invokevirtual 283, 3) := by decide +kernel
theorem d_Mo_writeOrder_151 : decode b_Mo_writeOrder 151 = .ok (.aload_n 0, 1) := by decide +kernel
theorem d_Mo_writeOrder_152 : decode b_Mo_writeOrder 152 = .ok (.iload_n 2, 1) := by decide +kernel
theorem d_Mo_writeOrder_153 : decode b_Mo_writeOrder 153 = .ok (.i2l, 1) := by decide +kernel
theorem d_Mo_writeOrder_154 : decode b_Mo_writeOrder 154 = .ok (.ldc2_w 274, 3) := by decide +kernel
theorem d_Mo_writeOrder_157 : decode b_Mo_writeOrder 157 = .ok (.land, 1) := by decide +kernel
theorem d_Mo_writeOrder_158 : decode b_Mo_writeOrder 158 = .ok (.iconst 4, 1) := by decide +kernel
theorem d_Mo_writeOrder_159 : decode b_Mo_writeOrder 159 = .ok (.invokevirtual 283, 3) := by decide +kernel
theorem d_Mo_writeOrder_162 : decode b_Mo_writeOrder 162 = .ok (.aload_n 0, 1) := by decide +kernel
theorem d_Mo_writeOrder_163 : decode b_Mo_writeOrder 163 = .ok (.iload_n 3, 1) := by decide +kernel
theorem d_Mo_writeOrder_164 : decode b_Mo_writeOrder 164 = .ok (.iconst 2, 1) := by decide +kernel
theorem d_Mo_writeOrder_165 : decode b_Mo_writeOrder 165 = .ok (.irem, 1) := by decide +kernel
theorem d_Mo_writeOrder_166 : decode b_Mo_writeOrder 166 = .ok (.iconst 1, 1) := by decide +kernel
theorem d_Mo_writeOrder_167 : decode b_Mo_writeOrder 167 = .ok (.if_icmp .ne 9, 3) := by decide +kernel
theorem d_Mo_writeOrder_170 : decode b_Mo_writeOrder 170 = .ok (.ldc2_w 162, 3) := by decide +kernel
theorem d_Mo_writeOrder_173 : decode b_Mo_writeOrder 173 = .ok (.goto 6, 3) := by decide +kernel
theorem d_Mo_writeOrder_176 : decode b_Mo_writeOrder 176 = .ok (.ldc2_w 321, 3) := by decide +kernel
theorem d_Mo_writeOrder_179 : decode b_Mo_writeOrder 179 = .ok (.iconst 1, 1) := by decide +kernel
theorem d_Mo_writeOrder_180 : decode b_Mo_writeOrder 180 = .ok (.invokevirtual 283, 3) := by decide +kernel
theorem d_Mo_writeOrder_183 : decode b_Mo_writeOrder 183 = .ok (.iload_n 3, 1) := by decide +kernel
theorem d_Mo_writeOrder_184 : decode b_Mo_writeOrder 184 = .ok (.iconst 2, 1) := by decide +kernel
theorem d_Mo_writeOrder_185 : decode b_Mo_writeOrder 185 = .ok (.irem, 1) := by decide +kernel
theorem d_Mo_writeOrder_186 : decode b_Mo_writeOrder 186 = .ok (.ifCond .ne 123, 3) := by decide +kernel
theorem d_Mo_writeOrder_189 : decode b_Mo_writeOrder 189 = .ok (.aload_n 0, 1) := by decide +kernel
theorem d_Mo_writeOrder_190 : decode b_Mo_writeOrder 190 = .ok (.iload_n 3, 1) := by decide +kernel
theorem d_Mo_writeOrder_191 : decode b_Mo_writeOrder 191 = .ok (.iconst 1, 1) := by decide +kernel
theorem d_Mo_writeOrder_192 : decode b_Mo_writeOrder 192 = .ok (.ishr, 1) := by decide +kernel
theorem d_Mo_writeOrder_193 : decode b_Mo_writeOrder 193 = .ok (.iconst 1, 1) := by decide +kernel
theorem d_Mo_writeOrder_194 : decode b_Mo_writeOrder 194 = .ok (.iand, 1) := by decide +kernel
theorem d_Mo_writeOrder_195 : decode b_Mo_writeOrder 195 = .ok (.bipush 7, 2) := by decide +kernel
theorem d_Mo_writeOrder_197 : decode b_Mo_writeOrder 197 = .ok (.ishl, 1) := by decide +kernel
theorem d_Mo_writeOrder_198 : decode b_Mo_writeOrder 198 = .ok (.bipush 64, 2) := by decide +kernel
theorem d_Mo_writeOrder_200 : decode b_Mo_writeOrder 200 = .ok (.ior, 1) := by decide +kernel
theorem d_Mo_writeOrder_201 : decode b_Mo_writeOrder 201 = .ok (.iload_n 3, 1) := by decide +kernel
theorem d_Mo_writeOrder_202 : decode b_Mo_writeOrder 202 = .ok (.iconst 3, 1) := by decide +kernel
theorem d_Mo_writeOrder_203 : decode b_Mo_writeOrder 203 = .ok (.ishr, 1) := by decide +kernel
theorem d_Mo_writeOrder_204 : decode b_Mo_writeOrder 204 = .ok (.iconst 1, 1) := by decide +kernel
theorem d_Mo_writeOrder_205 : decode b_Mo_writeOrder 205 = .ok (.iand, 1) := by decide +kernel
theorem d_Mo_writeOrder_206 : decode b_Mo_writeOrder 206 = .ok (.iconst 5, 1) := by decide +kernel
theorem d_Mo_writeOrder_207 : decode b_Mo_writeOrder 207 = .ok (.ishl, 1) := by decide +kernel
theorem d_Mo_writeOrder_208 : decode b_Mo_writeOrder 208 = .ok (.ior, 1) := by decide +kernel
theorem d_Mo_writeOrder_209 : decode b_Mo_writeOrder 209 = .ok (.iload 8, 2) := by decide +kernel
theorem d_Mo_writeOrder_211 : decode b_Mo_writeOrder 211 = .ok (.ifCond .eq 8, 3) := by decide +kernel
theorem d_Mo_writeOrder_214 : decode b_Mo_writeOrder 214 = .ok (.bipush 16, 2) := by decide +kernel
theorem d_Mo_writeOrder_216 : decode b_Mo_writeOrder 216 = .ok (.goto 4, 3) := by decide +kernel
theorem d_Mo_writeOrder_219 : decode b_Mo_writeOrder 219 = .ok (.iconst 0, 1) := by decide +kernel
theorem d_Mo_writeOrder_220 : decode b_Mo_writeOrder 220 = .ok (.ior, 1) := by decide +kernel
theorem d_Mo_writeOrder_221 : decode b_Mo_writeOrder 221 = .ok (.bipush 15, 2) := by decide +kernel
theorem d_Mo_writeOrder_223 : decode b_Mo_writeOrder 223 = .ok (.ior, 1) := by decide +kernel
theorem d_Mo_writeOrder_224 : decode b_Mo_writeOrder 224 = .ok (.i2l, 1) := by decide +kernel
theorem d_Mo_writeOrder_225 : decode b_Mo_writeOrder 225 = .ok (.iconst 1, 1) := by decide +kernel
theorem d_Mo_writeOrder_226 : decode b_Mo_writeOrder 226 = .ok (.invokevirtual 283, 3) := by decide +kernel
theorem d_Mo_writeOrder_229 : decode b_Mo_writeOrder 229 = .ok (.iload 8, 2) := by decide +kernel
theorem d_Mo_writeOrder_231 : decode b_Mo_writeOrder 231 = .ok (.ifCond .ne 23, 3) := by decide +kernel
theorem d_Mo_writeOrder_234 : decode b_Mo_writeOrder 234 = .ok (.iload_n 3, 1) := by decide +kernel
theorem d_Mo_writeOrder_235 : decode b_Mo_writeOrder 235 = .ok (.bipush 31, 2) := by decide +kernel
theorem d_Mo_writeOrder_237 : decode b_Mo_writeOrder 237 = .ok (.if_icmp .le 17, 3) := by decide +kernel
theorem d_Mo_writeOrder_240 : decode b_Mo_writeOrder 240 = .ok (.aload_n 0, 1) := by decide +kernel
theorem d_Mo_writeOrder_241 : decode b_Mo_writeOrder 241 = .ok (.ldc2_w 323, 3) := by decide +kernel
theorem d_Mo_writeOrder_244 : decode b_Mo_writeOrder 244 = .ok (.lload 4, 2) := by decide +kernel
theorem d_Mo_writeOrder_246 : decode b_Mo_writeOrder 246 = .ok (.lor, 1) := by decide +kernel
theorem d_Mo_writeOrder_247 : decode b_Mo_writeOrder 247 = .ok (.iconst 5, 1) := by decide +kernel
theorem d_Mo_writeOrder_248 : decode b_Mo_writeOrder 248 = .ok (.invokevirtual 283, 3) := by decide +kernel
theorem d_Mo_writeOrder_251 : decode b_Mo_writeOrder 251 = .ok (.goto 16, 3) := by decide +kernel
theorem d_Mo_writeOrder_254 : decode b_Mo_writeOrder 254 = .ok (.iload 8, 2) := by decide +kernel
theorem d_Mo_writeOrder_256 : decode b_Mo_writeOrder 256 = .ok (.ifCond .ne 11, 3) := by decide +kernel
theorem d_Mo_writeOrder_259 : decode b_Mo_writeOrder 259 = .ok (.aload_n 0, 1) := by decide +kernel
theorem d_Mo_writeOrder_260 : decode b_Mo_writeOrder 260 = .ok (.ldc2_w 321, 3) := by decide +kernel
theorem d_Mo_writeOrder_263 : decode b_Mo_writeOrder 263 = .ok (.iconst 1, 1) := by decide +kernel
theorem d_Mo_writeOrder_264 : decode b_Mo_writeOrder 264 = .ok (.invokevirtual 283, 3) := by decide +kernel
theorem d_Mo_writeOrder_267 : decode b_Mo_writeOrder 267 = .ok (.iload_n 3, 1) := by decide +kernel
theorem d_Mo_writeOrder_268 : decode b_Mo_writeOrder 268 = .ok (.iconst 3, 1) := by decide +kernel
theorem d_Mo_writeOrder_269 : decode b_Mo_writeOrder 269 = .ok (.ishr, 1) := by decide +kernel
theorem d_Mo_writeOrder_270 : decode b_Mo_writeOrder 270 = .ok (.iconst 1, 1) := by decide +kernel
theorem d_Mo_writeOrder_271 : decode b_Mo_writeOrder 271 = .ok (.iand, 1) := by decide +kernel
theorem d_Mo_writeOrder_272 : decode b_Mo_writeOrder 272 = .ok (.iconst 1, 1) := by decide +kernel
theorem d_Mo_writeOrder_273 : decode b_Mo_writeOrder 273 = .ok (.if_icmp .ne 28, 3) := by decide +kernel
theorem d_Mo_writeOrder_276 : decode b_Mo_writeOrder 276 = .ok (.aload_n 0, 1) := by decide +kernel
theorem d_Mo_writeOrder_277 : decode b_Mo_writeOrder 277 = .ok (.iload_n 3, 1) := by decide +kernel
theorem d_Mo_writeOrder_278 : decode b_Mo_writeOrder 278 = .ok (.iconst 4, 1) := by decide +kernel
theorem d_Mo_writeOrder_279 : decode b_Mo_writeOrder 279 = .ok (.ishr, 1) := by decide +kernel
theorem d_Mo_writeOrder_280 : decode b_Mo_writeOrder 280 = .ok (.i2l, 1) := by decide +kernel
theorem d_Mo_writeOrder_281 : decode b_Mo_writeOrder 281 = .ok (.lconst 1, 1) := by decide +kernel
theorem d_Mo_writeOrder_282 : decode b_Mo_writeOrder 282 = .ok (.land, 1) := by decide +kernel
theorem d_Mo_writeOrder_283 : decode b_Mo_writeOrder 283 = .ok (.bipush 39, 2) := by decide +kernel
theorem d_Mo_writeOrder_285 : decode b_Mo_writeOrder 285 = .ok (.lshl, 1) := by decide +kernel
theorem d_Mo_writeOrder_286 : decode b_Mo_writeOrder 286 = .ok (.ldc2_w 317, 3) := by decide +kernel
theorem d_Mo_writeOrder_289 : decode b_Mo_writeOrder 289 = .ok (.lor, 1) := by decide +kernel
theorem d_Mo_writeOrder_290 : decode b_Mo_writeOrder 290 = .ok (.lload 6, 2) := by decide +kernel
theorem d_Mo_writeOrder_292 : decode b_Mo_writeOrder 292 = .ok (.ldc2_w 325, 3) := by decide +kernel
theorem d_Mo_writeOrder_295 : decode b_Mo_writeOrder 295 = .ok (.land, 1) := by decide +kernel
theorem d_Mo_writeOrder_296 : decode b_Mo_writeOrder 296 = .ok (.lor, 1) := by decide +kernel
theorem d_Mo_writeOrder_297 : decode b_Mo_writeOrder 297 = .ok (.iconst 5, 1) := by decide +kernel
theorem d_Mo_writeOrder_298 : decode b_Mo_writeOrder 298 = .ok (.invokevirtual 283, 3) := by decide +kernel
theorem d_Mo_writeOrder_301 : decode b_Mo_writeOrder 301 = .ok (.aload_n 0, 1) := by decide +kernel
theorem d_Mo_writeOrder_302 : decode b_Mo_writeOrder 302 = .ok (.ldc2_w 274, 3) := by decide +kernel
theorem d_Mo_writeOrder_305 : decode b_Mo_writeOrder 305 = .ok (.iconst 4, 1) := by decide +kernel
theorem d_Mo_writeOrder_306 : decode b_Mo_writeOrder 306 = .ok (.invokevirtual 283, 3) := by decide +kernel
theorem d_Mo_writeOrder_309 : decode b_Mo_writeOrder 309 = .ok (.aload_n 0, 1) := by decide +kernel
theorem d_Mo_writeOrder_310 : decode b_Mo_writeOrder 310 = .ok (.iconst 3, 1) := by decide +kernel
theorem d_Mo_writeOrder_311 : decode b_Mo_writeOrder 311 = .ok (.invokevirtual 297, 3) := by decide +kernel
theorem d_Mo_writeOrder_314 : decode b_Mo_writeOrder 314 = .ok (.aload_n 0, 1) := by decide +kernel
theorem d_Mo_writeOrder_315 : decode b_Mo_writeOrder 315 = .ok (.iload_n 1, 1) := by decide +kernel
theorem d_Mo_writeOrder_316 : decode b_Mo_writeOrder 316 = .ok (.invokevirtual 300, 3) := by decide +kernel
theorem d_Mo_writeOrder_319 : decode b_Mo_writeOrder 319 = .ok (.aload_n 0, 1) := by decide +kernel
theorem d_Mo_writeOrder_320 : decode b_Mo_writeOrder 320 = .ok (.getfield 159, 3) := by decide +kernel
theorem d_Mo_writeOrder_323 : decode b_Mo_writeOrder 323 = .ok (.ireturn, 1) := by decide +kernel
def moA (nm how : Int32) (ln : Int64) : List Int32 := ((((((((bsL 0 1 ++ bsL 252 1) ++ bsL 0 2) ++ bsL 0 1) ++ bsL (541165879296 ||| (ln >>> ((33 : Int32).toInt64 &&& 63))) 5) ++ bsL 4294967295 4) ++ bsL 5 1) ++ bsL (nm.toInt64 &&& 4294967295) 4) ++ bsL (if how - how / 2 * 2 = 1 then 255 else 127) 1)
def moF (how : Int32) : Int32 := (((((how >>> ((1 : Int32) &&& 31)) &&& 1) <<< ((7 : Int32) &&& 31)) ||| 64) ||| (((how >>> ((3 : Int32) &&& 31)) &&& 1) <<< ((5 : Int32) &&& 31)) ||| (if (how >>> ((2 : Int32) &&& 31)) &&& 1 = 1 then 16 else 0)) ||| 15
def moV (how : Int32) (ln : Int64) : Int64 := ((((how >>> ((4 : Int32) &&& 31)).toInt64 &&& 1) <<< ((39 : Int32).toInt64 &&& 63)) ||| 541165879296) ||| (ln &&& 8589934591)
def moB (how : Int32) (t : Int64) : List Int32 := if (how >>> ((2 : Int32) &&& 31)) &&& 1 = 1 then [] else if 31 < how then bsL (1090921693184 ||| t) 5 else bsL 127 1
def moD (how : Int32) (ln : Int64) : List Int32 := if (how >>> ((3 : Int32) &&& 31)) &&& 1 = 1 then bsL (moV how ln) 5 else []
def moL (nm how : Int32) (t ln : Int64) : List Int32 := if how - how / 2 * 2 = 0 then (((moA nm how ln ++ bsL (moF how).toInt64 1) ++ moB how t) ++ moD how ln) ++ bsL 4294967295 4 else moA nm how ln
theorem mo_len (nm how : Int32) (t ln : Int64) : 4 ≤ (moL nm how t ln).length ∧ (moL nm how t ln).length ≤ 180 := by
  have hA : (moA nm how ln).length = 20 := by simp [moA, bs_len]
  have hB : (moB how t).length ≤ 5 := by
    unfold moB
    split
    · simp
    · split <;> simp [bs_len]
  have hD : (moD how ln).length ≤ 5 := by
    unfold moD
    split <;> simp [bs_len]
  unfold moL
  split
  · simp only [List.length_append, bs_len]
    omega
  · omega
theorem mo_1 {c : Prop} [Decidable c] (h : ¬ (if c then (1 : Int32) else 0) = 0) : c := Decidable.byContradiction (fun z => h (if_neg z))
theorem mo_0 {c : Prop} [Decidable c] (h : (if c then (1 : Int32) else 0) = 0) : ¬ c := fun z => absurd (h.symm.trans (if_pos z)) (by decide)

set_option maxHeartbeats 4000000 in
set_option maxRecDepth 100000 in
theorem c_Mo_writeOrder (l : Launch) (D : va_G) (sz : Nat) (cI : ClassId) (h : Nat) (r : Nat → Nat) (th le lv pg pn pl rs : Int32) (T : List Int32) (tp : Nat → Int32) (wf : Nat → Nat) (wr ro : Nat → Int32) (i nm how : Int32) (t0 ln : Int64) (htp : rl tp T) (hn : T.length ≤ 9400) (hwf : ∀ x, x < 8192 → wr x = nI (wf x)) (hwb : ∀ x, x < 8192 → wf x < 2 ^ 29) : Met l y_Mo_writeOrder [Cond.code y_Mo_writeOrder b_Mo_writeOrder 9 (some .int)] ({ frames := 2, cells := 0, slots := 0, locals := 47 }) (zM [.ref h, .int i, .int nm, .int how, .long t0, .long ln] D [(h, .inr (13, mO r th (nI T.length) le lv pg pn pl rs)), (r 1, .inl (cI, 9400, .inl tp)), (r 51, .inl (cI, 8192, .inl wr)), (r 52, .inl (cI, 4200, .inl ro))] [(cI, .int)] sz) (va_Qi (fun r0 (u : MWQ) => ((i < 0 ∨ 8191 < i ∨ how < 0 ∨ 63 < how ∨ t0 < 0 ∨ 8589934592 ≤ t0 ∨ ln < 0) ∧ r0 = 0 ∧ u = (1, nI T.length, rs, tp, wr, ro)) ∨ (¬ (how < 0 ∨ 63 < how ∨ t0 < 0 ∨ 8589934592 ≤ t0 ∨ ln < 0) ∧ ∃ a9 : Nat, i = nI a9 ∧ a9 ≤ 8191 ∧ ((¬ T.length + 188 ≤ 9400 ∧ r0 = -1 ∧ u = (0, nI T.length, rs, tp, wr, ro)) ∨ (T.length + 188 ≤ 9400 ∧ MW T (sealL 3 (moL nm how t0 ln)) a9 wf wr u r0)))) (fun (u : MWQ) t => zW D (va_A [(h, .inr (13, mO r th (nI T.length) le lv pg pn pl rs)), (r 1, .inl (cI, 9400, .inl tp)), (r 51, .inl (cI, 8192, .inl wr)), (r 52, .inl (cI, 4200, .inl ro))] sz) [(h, .inr (13, mO r u.1 u.2.1 le lv pg pn pl u.2.2.1)), (r 1, .inl (cI, 9400, .inl u.2.2.2.1)), (r 51, .inl (cI, 8192, .inl u.2.2.2.2.1)), (r 52, .inl (cI, 4200, .inl u.2.2.2.2.2))] [(cI, .int)] t) (va_A [(h, .inr (13, mO r th (nI T.length) le lv pg pn pl rs)), (r 1, .inl (cI, 9400, .inl tp)), (r 51, .inl (cI, 8192, .inl wr)), (r 52, .inl (cI, 4200, .inl ro))] sz)) 0 0 (va_A [(h, .inr (13, mO r th (nI T.length) le lv pg pn pl rs)), (r 1, .inl (cI, 9400, .inl tp)), (r 51, .inl (cI, 8192, .inl wr)), (r 52, .inl (cI, 4200, .inl ro))] sz) := by
  refine Met.ofW (cc := b_Mo_writeOrder) (maxL := 9) (ret := (some .int)) (by decide) rfl ?_
  intro p e s m args below meth cd s₁ Bd hml hv
  obtain ⟨rfl, hsz, hP, hK, hN, hD0⟩ := hv
  have hx := Bd.exec
  have hb := Bd.bytes
  have hr := Bd.returns
  have hts := hN.use (a := ([.ref h, .int i, .int nm, .int how, .long t0, .long ln]).toArray)
  have hown : s.vm.findClass R_Mo = some m.cls := findClass_of_methodNamed Bd.named
  have hlocks := Bd.notSynchronized
  subst hsz
  have hD := hD0.self (sz := s.heap.size)
  clear hD0
  have hA : ∀ q : Nat, s.heap.size ≤ q → va_A [(h, .inr (13, mO r th (nI T.length) le lv pg pn pl rs)), (r 1, .inl (cI, 9400, .inl tp)), (r 51, .inl (cI, 8192, .inl wr)), (r 52, .inl (cI, 4200, .inl ro))] s.heap.size q := fun q h => Or.inr h
  have hS : va_S (va_A [(h, .inr (13, mO r th (nI T.length) le lv pg pn pl rs)), (r 1, .inl (cI, 9400, .inl tp)), (r 51, .inl (cI, 8192, .inl wr)), (r 52, .inl (cI, 4200, .inl ro))] s.heap.size) s.heap s.heap [] := va_S.rf
  generalize hAe : va_A [(h, .inr (13, mO r th (nI T.length) le lv pg pn pl rs)), (r 1, .inl (cI, 9400, .inl tp)), (r 51, .inl (cI, 8192, .inl wr)), (r 52, .inl (cI, 4200, .inl ro))] s.heap.size = A at hD hA hS ⊢
  have hP : va_P D classes [(h, .inr (13, mO r th (nI T.length) le lv pg pn pl rs)), (r 1, .inl (cI, 9400, .inl tp)), (r 51, .inl (cI, 8192, .inl wr)), (r 52, .inl (cI, 4200, .inl ro))] s.heap := hP
  have hl := lv_entry ([.ref h, .int i, .int nm, .int how, .long t0, .long ln]) (n := 9) (Nat.le_of_ble_eq_true rfl)
  rw [lg_entry_eq]
  generalize (lg_sl ([.ref h, .int i, .int nm, .int how, .long t0, .long ln]) ++ List.replicate (9 - (lg_sl ([.ref h, .int i, .int nm, .int how, .long t0, .long ln])).length) Slot.unset).toArray = ls at hl ⊢
  have hl : lv_has ls 9 [(0, .ref h), (1, .int i), (2, .int nm), (3, .int how), (4, .long t0), (6, .long ln)] := hl
  refine lv_aload_n hx hb d_Mo_writeOrder_0 rfl (lv_at hl 0 rfl) ?_
  refine lv_iload_n hx hb d_Mo_writeOrder_1 rfl (lv_at hl 1 rfl) ?_
  refine lv_if_lt (tgt := 45) hx hb d_Mo_writeOrder_2 rfl (fun h2 => ?_) (fun h2 => ?_)
  · refine lv_iconst (v := 1) hx hb d_Mo_writeOrder_45 (by decide) ?_
    refine lv_goto (tgt := 50) hx hb d_Mo_writeOrder_46 rfl ?_
    refine va_put (D := D) (ci := 13) (v := .int 1) (ty := .int) (C := R_Mo) (T := F_Mo) (N := 54) hx hb hts i_Mo t_Mo t_Mo_ok n_Mo hown hK hP hD hS 0 rfl rfl 0 (by decide) (hts _ wd_1088) (fun _ h9 => h9) rfl (by decide +kernel) rfl rfl (Nat.le_of_ble_eq_true rfl) d_Mo_writeOrder_50 (fun H locs hP hD hS => ?_)
    have hP : va_P D classes [(h, .inr (13, mO r 1 (nI T.length) le lv pg pn pl rs)), (r 1, .inl (cI, 9400, .inl tp)), (r 51, .inl (cI, 8192, .inl wr)), (r 52, .inl (cI, 4200, .inl ro))] H := hP
    have hD : va_D A [(h, .inr (13, mO r 1 (nI T.length) le lv pg pn pl rs)), (r 1, .inl (cI, 9400, .inl tp)), (r 51, .inl (cI, 8192, .inl wr)), (r 52, .inl (cI, 4200, .inl ro))] := hD
    refine lv_aload_n hx hb d_Mo_writeOrder_53 rfl (lv_at hl 0 rfl) ?_
    refine va_get (D := D) (ci := 13) (v := .int 1) (C := R_Mo) (T := F_Mo) (N := 54) hx hb hts i_Mo hown hK hP 0 rfl rfl 0 (by decide) (hts _ wd_1088) (fun _ h9 => h9) rfl d_Mo_writeOrder_54 ?_
    refine lv_if_le (tgt := 62) hx hb d_Mo_writeOrder_57 rfl (fun h9 => absurd h9 (by decide)) (fun h57 => ?_)
    refine lv_iconst (v := 0) hx hb d_Mo_writeOrder_60 (by decide) ?_
    have hP9 := hP.sub (ws' := [(h, .inr (13, mO r 1 (nI T.length) le lv pg pn pl rs)), (r 1, .inl (cI, 9400, .inl tp)), (r 51, .inl (cI, 8192, .inl wr)), (r 52, .inl (cI, 4200, .inl ro))]) [0, 1, 2, 3] rfl
    have hD9 := hD.sub (ws' := [(h, .inr (13, mO r 1 (nI T.length) le lv pg pn pl rs)), (r 1, .inl (cI, 9400, .inl tp)), (r 51, .inl (cI, 8192, .inl wr)), (r 52, .inl (cI, 4200, .inl ro))]) [0, 1, 2, 3] (by decide) rfl
    have hK9 := hK.sub (tys' := [(cI, .int)]) [0] rfl
    exact W.iret (v := 0) hx hb hr (fun t ht hW => ⟨⟨_, (1, nI T.length, rs, tp, wr, ro), rfl, Or.inl ⟨by first | exact Or.inl h2 | exact Or.inr (Or.inl h9) | exact Or.inr (Or.inr (Or.inl h13)) | exact Or.inr (Or.inr (Or.inr (Or.inl h19))) | exact Or.inr (Or.inr (Or.inr (Or.inr (Or.inl h26)))) | exact Or.inr (Or.inr (Or.inr (Or.inr (Or.inr (Or.inl h35))))) | exact Or.inr (Or.inr (Or.inr (Or.inr (Or.inr (Or.inr (h42)))))), rfl, rfl⟩, ⟨by rw [ht]; exact hP9, va_K.moved hW.alike hK9, hD9⟩⟩, hS.F ht⟩) hS.2.2 d_Mo_writeOrder_61
  · refine lv_iload_n hx hb d_Mo_writeOrder_5 rfl (lv_at hl 1 rfl) ?_
    refine lv_sipush (v := 8191) hx hb d_Mo_writeOrder_6 (by decide) ?_
    refine lv_icmp_gt (tgt := 45) hx hb d_Mo_writeOrder_9 rfl (fun h9 => ?_) (fun h9 => ?_)
    · refine lv_iconst (v := 1) hx hb d_Mo_writeOrder_45 (by decide) ?_
      refine lv_goto (tgt := 50) hx hb d_Mo_writeOrder_46 rfl ?_
      refine va_put (D := D) (ci := 13) (v := .int 1) (ty := .int) (C := R_Mo) (T := F_Mo) (N := 54) hx hb hts i_Mo t_Mo t_Mo_ok n_Mo hown hK hP hD hS 0 rfl rfl 0 (by decide) (hts _ wd_1088) (fun _ h9 => h9) rfl (by decide +kernel) rfl rfl (Nat.le_of_ble_eq_true rfl) d_Mo_writeOrder_50 (fun H locs hP hD hS => ?_)
      have hP : va_P D classes [(h, .inr (13, mO r 1 (nI T.length) le lv pg pn pl rs)), (r 1, .inl (cI, 9400, .inl tp)), (r 51, .inl (cI, 8192, .inl wr)), (r 52, .inl (cI, 4200, .inl ro))] H := hP
      have hD : va_D A [(h, .inr (13, mO r 1 (nI T.length) le lv pg pn pl rs)), (r 1, .inl (cI, 9400, .inl tp)), (r 51, .inl (cI, 8192, .inl wr)), (r 52, .inl (cI, 4200, .inl ro))] := hD
      refine lv_aload_n hx hb d_Mo_writeOrder_53 rfl (lv_at hl 0 rfl) ?_
      refine va_get (D := D) (ci := 13) (v := .int 1) (C := R_Mo) (T := F_Mo) (N := 54) hx hb hts i_Mo hown hK hP 0 rfl rfl 0 (by decide) (hts _ wd_1088) (fun _ h9 => h9) rfl d_Mo_writeOrder_54 ?_
      refine lv_if_le (tgt := 62) hx hb d_Mo_writeOrder_57 rfl (fun h9 => absurd h9 (by decide)) (fun h57 => ?_)
      refine lv_iconst (v := 0) hx hb d_Mo_writeOrder_60 (by decide) ?_
      have hP9 := hP.sub (ws' := [(h, .inr (13, mO r 1 (nI T.length) le lv pg pn pl rs)), (r 1, .inl (cI, 9400, .inl tp)), (r 51, .inl (cI, 8192, .inl wr)), (r 52, .inl (cI, 4200, .inl ro))]) [0, 1, 2, 3] rfl
      have hD9 := hD.sub (ws' := [(h, .inr (13, mO r 1 (nI T.length) le lv pg pn pl rs)), (r 1, .inl (cI, 9400, .inl tp)), (r 51, .inl (cI, 8192, .inl wr)), (r 52, .inl (cI, 4200, .inl ro))]) [0, 1, 2, 3] (by decide) rfl
      have hK9 := hK.sub (tys' := [(cI, .int)]) [0] rfl
      exact W.iret (v := 0) hx hb hr (fun t ht hW => ⟨⟨_, (1, nI T.length, rs, tp, wr, ro), rfl, Or.inl ⟨by first | exact Or.inl h2 | exact Or.inr (Or.inl h9) | exact Or.inr (Or.inr (Or.inl h13)) | exact Or.inr (Or.inr (Or.inr (Or.inl h19))) | exact Or.inr (Or.inr (Or.inr (Or.inr (Or.inl h26)))) | exact Or.inr (Or.inr (Or.inr (Or.inr (Or.inr (Or.inl h35))))) | exact Or.inr (Or.inr (Or.inr (Or.inr (Or.inr (Or.inr (h42)))))), rfl, rfl⟩, ⟨by rw [ht]; exact hP9, va_K.moved hW.alike hK9, hD9⟩⟩, hS.F ht⟩) hS.2.2 d_Mo_writeOrder_61
    · refine lv_iload_n hx hb d_Mo_writeOrder_12 rfl (lv_at hl 3 rfl) ?_
      refine lv_if_lt (tgt := 45) hx hb d_Mo_writeOrder_13 rfl (fun h13 => ?_) (fun h13 => ?_)
      · refine lv_iconst (v := 1) hx hb d_Mo_writeOrder_45 (by decide) ?_
        refine lv_goto (tgt := 50) hx hb d_Mo_writeOrder_46 rfl ?_
        refine va_put (D := D) (ci := 13) (v := .int 1) (ty := .int) (C := R_Mo) (T := F_Mo) (N := 54) hx hb hts i_Mo t_Mo t_Mo_ok n_Mo hown hK hP hD hS 0 rfl rfl 0 (by decide) (hts _ wd_1088) (fun _ h9 => h9) rfl (by decide +kernel) rfl rfl (Nat.le_of_ble_eq_true rfl) d_Mo_writeOrder_50 (fun H locs hP hD hS => ?_)
        have hP : va_P D classes [(h, .inr (13, mO r 1 (nI T.length) le lv pg pn pl rs)), (r 1, .inl (cI, 9400, .inl tp)), (r 51, .inl (cI, 8192, .inl wr)), (r 52, .inl (cI, 4200, .inl ro))] H := hP
        have hD : va_D A [(h, .inr (13, mO r 1 (nI T.length) le lv pg pn pl rs)), (r 1, .inl (cI, 9400, .inl tp)), (r 51, .inl (cI, 8192, .inl wr)), (r 52, .inl (cI, 4200, .inl ro))] := hD
        refine lv_aload_n hx hb d_Mo_writeOrder_53 rfl (lv_at hl 0 rfl) ?_
        refine va_get (D := D) (ci := 13) (v := .int 1) (C := R_Mo) (T := F_Mo) (N := 54) hx hb hts i_Mo hown hK hP 0 rfl rfl 0 (by decide) (hts _ wd_1088) (fun _ h9 => h9) rfl d_Mo_writeOrder_54 ?_
        refine lv_if_le (tgt := 62) hx hb d_Mo_writeOrder_57 rfl (fun h9 => absurd h9 (by decide)) (fun h57 => ?_)
        refine lv_iconst (v := 0) hx hb d_Mo_writeOrder_60 (by decide) ?_
        have hP9 := hP.sub (ws' := [(h, .inr (13, mO r 1 (nI T.length) le lv pg pn pl rs)), (r 1, .inl (cI, 9400, .inl tp)), (r 51, .inl (cI, 8192, .inl wr)), (r 52, .inl (cI, 4200, .inl ro))]) [0, 1, 2, 3] rfl
        have hD9 := hD.sub (ws' := [(h, .inr (13, mO r 1 (nI T.length) le lv pg pn pl rs)), (r 1, .inl (cI, 9400, .inl tp)), (r 51, .inl (cI, 8192, .inl wr)), (r 52, .inl (cI, 4200, .inl ro))]) [0, 1, 2, 3] (by decide) rfl
        have hK9 := hK.sub (tys' := [(cI, .int)]) [0] rfl
        exact W.iret (v := 0) hx hb hr (fun t ht hW => ⟨⟨_, (1, nI T.length, rs, tp, wr, ro), rfl, Or.inl ⟨by first | exact Or.inl h2 | exact Or.inr (Or.inl h9) | exact Or.inr (Or.inr (Or.inl h13)) | exact Or.inr (Or.inr (Or.inr (Or.inl h19))) | exact Or.inr (Or.inr (Or.inr (Or.inr (Or.inl h26)))) | exact Or.inr (Or.inr (Or.inr (Or.inr (Or.inr (Or.inl h35))))) | exact Or.inr (Or.inr (Or.inr (Or.inr (Or.inr (Or.inr (h42)))))), rfl, rfl⟩, ⟨by rw [ht]; exact hP9, va_K.moved hW.alike hK9, hD9⟩⟩, hS.F ht⟩) hS.2.2 d_Mo_writeOrder_61
      · refine lv_iload_n hx hb d_Mo_writeOrder_16 rfl (lv_at hl 3 rfl) ?_
        refine lv_bipush (v := 63) hx hb d_Mo_writeOrder_17 (by decide) ?_
        refine lv_icmp_gt (tgt := 45) hx hb d_Mo_writeOrder_19 rfl (fun h19 => ?_) (fun h19 => ?_)
        · refine lv_iconst (v := 1) hx hb d_Mo_writeOrder_45 (by decide) ?_
          refine lv_goto (tgt := 50) hx hb d_Mo_writeOrder_46 rfl ?_
          refine va_put (D := D) (ci := 13) (v := .int 1) (ty := .int) (C := R_Mo) (T := F_Mo) (N := 54) hx hb hts i_Mo t_Mo t_Mo_ok n_Mo hown hK hP hD hS 0 rfl rfl 0 (by decide) (hts _ wd_1088) (fun _ h9 => h9) rfl (by decide +kernel) rfl rfl (Nat.le_of_ble_eq_true rfl) d_Mo_writeOrder_50 (fun H locs hP hD hS => ?_)
          have hP : va_P D classes [(h, .inr (13, mO r 1 (nI T.length) le lv pg pn pl rs)), (r 1, .inl (cI, 9400, .inl tp)), (r 51, .inl (cI, 8192, .inl wr)), (r 52, .inl (cI, 4200, .inl ro))] H := hP
          have hD : va_D A [(h, .inr (13, mO r 1 (nI T.length) le lv pg pn pl rs)), (r 1, .inl (cI, 9400, .inl tp)), (r 51, .inl (cI, 8192, .inl wr)), (r 52, .inl (cI, 4200, .inl ro))] := hD
          refine lv_aload_n hx hb d_Mo_writeOrder_53 rfl (lv_at hl 0 rfl) ?_
          refine va_get (D := D) (ci := 13) (v := .int 1) (C := R_Mo) (T := F_Mo) (N := 54) hx hb hts i_Mo hown hK hP 0 rfl rfl 0 (by decide) (hts _ wd_1088) (fun _ h9 => h9) rfl d_Mo_writeOrder_54 ?_
          refine lv_if_le (tgt := 62) hx hb d_Mo_writeOrder_57 rfl (fun h9 => absurd h9 (by decide)) (fun h57 => ?_)
          refine lv_iconst (v := 0) hx hb d_Mo_writeOrder_60 (by decide) ?_
          have hP9 := hP.sub (ws' := [(h, .inr (13, mO r 1 (nI T.length) le lv pg pn pl rs)), (r 1, .inl (cI, 9400, .inl tp)), (r 51, .inl (cI, 8192, .inl wr)), (r 52, .inl (cI, 4200, .inl ro))]) [0, 1, 2, 3] rfl
          have hD9 := hD.sub (ws' := [(h, .inr (13, mO r 1 (nI T.length) le lv pg pn pl rs)), (r 1, .inl (cI, 9400, .inl tp)), (r 51, .inl (cI, 8192, .inl wr)), (r 52, .inl (cI, 4200, .inl ro))]) [0, 1, 2, 3] (by decide) rfl
          have hK9 := hK.sub (tys' := [(cI, .int)]) [0] rfl
          exact W.iret (v := 0) hx hb hr (fun t ht hW => ⟨⟨_, (1, nI T.length, rs, tp, wr, ro), rfl, Or.inl ⟨by first | exact Or.inl h2 | exact Or.inr (Or.inl h9) | exact Or.inr (Or.inr (Or.inl h13)) | exact Or.inr (Or.inr (Or.inr (Or.inl h19))) | exact Or.inr (Or.inr (Or.inr (Or.inr (Or.inl h26)))) | exact Or.inr (Or.inr (Or.inr (Or.inr (Or.inr (Or.inl h35))))) | exact Or.inr (Or.inr (Or.inr (Or.inr (Or.inr (Or.inr (h42)))))), rfl, rfl⟩, ⟨by rw [ht]; exact hP9, va_K.moved hW.alike hK9, hD9⟩⟩, hS.F ht⟩) hS.2.2 d_Mo_writeOrder_61
        · refine lv_lload hx hb d_Mo_writeOrder_22 (lv_at hl 4 rfl) ?_
          refine lv_lconst (v := 0) hx hb d_Mo_writeOrder_24 (by decide) ?_
          refine W.lcmp hx hb d_Mo_writeOrder_25 ?_
          refine lv_if_lt (tgt := 45) hx hb d_Mo_writeOrder_26 rfl (fun h26 => ?_) (fun h26 => ?_)
          · have h26 := (lg_cmp_lt _ _).mp h26
            refine lv_iconst (v := 1) hx hb d_Mo_writeOrder_45 (by decide) ?_
            refine lv_goto (tgt := 50) hx hb d_Mo_writeOrder_46 rfl ?_
            refine va_put (D := D) (ci := 13) (v := .int 1) (ty := .int) (C := R_Mo) (T := F_Mo) (N := 54) hx hb hts i_Mo t_Mo t_Mo_ok n_Mo hown hK hP hD hS 0 rfl rfl 0 (by decide) (hts _ wd_1088) (fun _ h9 => h9) rfl (by decide +kernel) rfl rfl (Nat.le_of_ble_eq_true rfl) d_Mo_writeOrder_50 (fun H locs hP hD hS => ?_)
            have hP : va_P D classes [(h, .inr (13, mO r 1 (nI T.length) le lv pg pn pl rs)), (r 1, .inl (cI, 9400, .inl tp)), (r 51, .inl (cI, 8192, .inl wr)), (r 52, .inl (cI, 4200, .inl ro))] H := hP
            have hD : va_D A [(h, .inr (13, mO r 1 (nI T.length) le lv pg pn pl rs)), (r 1, .inl (cI, 9400, .inl tp)), (r 51, .inl (cI, 8192, .inl wr)), (r 52, .inl (cI, 4200, .inl ro))] := hD
            refine lv_aload_n hx hb d_Mo_writeOrder_53 rfl (lv_at hl 0 rfl) ?_
            refine va_get (D := D) (ci := 13) (v := .int 1) (C := R_Mo) (T := F_Mo) (N := 54) hx hb hts i_Mo hown hK hP 0 rfl rfl 0 (by decide) (hts _ wd_1088) (fun _ h9 => h9) rfl d_Mo_writeOrder_54 ?_
            refine lv_if_le (tgt := 62) hx hb d_Mo_writeOrder_57 rfl (fun h9 => absurd h9 (by decide)) (fun h57 => ?_)
            refine lv_iconst (v := 0) hx hb d_Mo_writeOrder_60 (by decide) ?_
            have hP9 := hP.sub (ws' := [(h, .inr (13, mO r 1 (nI T.length) le lv pg pn pl rs)), (r 1, .inl (cI, 9400, .inl tp)), (r 51, .inl (cI, 8192, .inl wr)), (r 52, .inl (cI, 4200, .inl ro))]) [0, 1, 2, 3] rfl
            have hD9 := hD.sub (ws' := [(h, .inr (13, mO r 1 (nI T.length) le lv pg pn pl rs)), (r 1, .inl (cI, 9400, .inl tp)), (r 51, .inl (cI, 8192, .inl wr)), (r 52, .inl (cI, 4200, .inl ro))]) [0, 1, 2, 3] (by decide) rfl
            have hK9 := hK.sub (tys' := [(cI, .int)]) [0] rfl
            exact W.iret (v := 0) hx hb hr (fun t ht hW => ⟨⟨_, (1, nI T.length, rs, tp, wr, ro), rfl, Or.inl ⟨by first | exact Or.inl h2 | exact Or.inr (Or.inl h9) | exact Or.inr (Or.inr (Or.inl h13)) | exact Or.inr (Or.inr (Or.inr (Or.inl h19))) | exact Or.inr (Or.inr (Or.inr (Or.inr (Or.inl h26)))) | exact Or.inr (Or.inr (Or.inr (Or.inr (Or.inr (Or.inl h35))))) | exact Or.inr (Or.inr (Or.inr (Or.inr (Or.inr (Or.inr (h42)))))), rfl, rfl⟩, ⟨by rw [ht]; exact hP9, va_K.moved hW.alike hK9, hD9⟩⟩, hS.F ht⟩) hS.2.2 d_Mo_writeOrder_61
          · have h26 := mt (lg_cmp_lt _ _).mpr h26
            refine lv_lload hx hb d_Mo_writeOrder_29 (lv_at hl 4 rfl) ?_
            refine lv_ldc2 hx hb hown (hts _ wd_1335) d_Mo_writeOrder_31 ?_
            refine W.lcmp hx hb d_Mo_writeOrder_34 ?_
            refine lv_if_ge (tgt := 45) hx hb d_Mo_writeOrder_35 rfl (fun h35 => ?_) (fun h35 => ?_)
            · have h35 := (lg_cmp_ge _ _).mp h35
              refine lv_iconst (v := 1) hx hb d_Mo_writeOrder_45 (by decide) ?_
              refine lv_goto (tgt := 50) hx hb d_Mo_writeOrder_46 rfl ?_
              refine va_put (D := D) (ci := 13) (v := .int 1) (ty := .int) (C := R_Mo) (T := F_Mo) (N := 54) hx hb hts i_Mo t_Mo t_Mo_ok n_Mo hown hK hP hD hS 0 rfl rfl 0 (by decide) (hts _ wd_1088) (fun _ h9 => h9) rfl (by decide +kernel) rfl rfl (Nat.le_of_ble_eq_true rfl) d_Mo_writeOrder_50 (fun H locs hP hD hS => ?_)
              have hP : va_P D classes [(h, .inr (13, mO r 1 (nI T.length) le lv pg pn pl rs)), (r 1, .inl (cI, 9400, .inl tp)), (r 51, .inl (cI, 8192, .inl wr)), (r 52, .inl (cI, 4200, .inl ro))] H := hP
              have hD : va_D A [(h, .inr (13, mO r 1 (nI T.length) le lv pg pn pl rs)), (r 1, .inl (cI, 9400, .inl tp)), (r 51, .inl (cI, 8192, .inl wr)), (r 52, .inl (cI, 4200, .inl ro))] := hD
              refine lv_aload_n hx hb d_Mo_writeOrder_53 rfl (lv_at hl 0 rfl) ?_
              refine va_get (D := D) (ci := 13) (v := .int 1) (C := R_Mo) (T := F_Mo) (N := 54) hx hb hts i_Mo hown hK hP 0 rfl rfl 0 (by decide) (hts _ wd_1088) (fun _ h9 => h9) rfl d_Mo_writeOrder_54 ?_
              refine lv_if_le (tgt := 62) hx hb d_Mo_writeOrder_57 rfl (fun h9 => absurd h9 (by decide)) (fun h57 => ?_)
              refine lv_iconst (v := 0) hx hb d_Mo_writeOrder_60 (by decide) ?_
              have hP9 := hP.sub (ws' := [(h, .inr (13, mO r 1 (nI T.length) le lv pg pn pl rs)), (r 1, .inl (cI, 9400, .inl tp)), (r 51, .inl (cI, 8192, .inl wr)), (r 52, .inl (cI, 4200, .inl ro))]) [0, 1, 2, 3] rfl
              have hD9 := hD.sub (ws' := [(h, .inr (13, mO r 1 (nI T.length) le lv pg pn pl rs)), (r 1, .inl (cI, 9400, .inl tp)), (r 51, .inl (cI, 8192, .inl wr)), (r 52, .inl (cI, 4200, .inl ro))]) [0, 1, 2, 3] (by decide) rfl
              have hK9 := hK.sub (tys' := [(cI, .int)]) [0] rfl
              exact W.iret (v := 0) hx hb hr (fun t ht hW => ⟨⟨_, (1, nI T.length, rs, tp, wr, ro), rfl, Or.inl ⟨by first | exact Or.inl h2 | exact Or.inr (Or.inl h9) | exact Or.inr (Or.inr (Or.inl h13)) | exact Or.inr (Or.inr (Or.inr (Or.inl h19))) | exact Or.inr (Or.inr (Or.inr (Or.inr (Or.inl h26)))) | exact Or.inr (Or.inr (Or.inr (Or.inr (Or.inr (Or.inl h35))))) | exact Or.inr (Or.inr (Or.inr (Or.inr (Or.inr (Or.inr (h42)))))), rfl, rfl⟩, ⟨by rw [ht]; exact hP9, va_K.moved hW.alike hK9, hD9⟩⟩, hS.F ht⟩) hS.2.2 d_Mo_writeOrder_61
            · have h35 := mt (lg_cmp_ge _ _).mpr h35
              refine lv_lload hx hb d_Mo_writeOrder_38 (lv_at hl 5 rfl) ?_
              refine lv_lconst (v := 0) hx hb d_Mo_writeOrder_40 (by decide) ?_
              refine W.lcmp hx hb d_Mo_writeOrder_41 ?_
              refine lv_if_ge (tgt := 49) hx hb d_Mo_writeOrder_42 rfl (fun h42 => ?_) (fun h42 => ?_)
              · have h42 := Int64.not_lt.mpr ((lg_cmp_ge _ _).mp h42)
                obtain ⟨i9, hi9, hie⟩ := nI_of2 (x := i) (M := 8191) (n := 8191) (by decide) h2 (Int32.not_lt.mp h9)
                subst hie
                have hbad : ¬ (how < 0 ∨ 63 < how ∨ t0 < 0 ∨ 8589934592 ≤ t0 ∨ ln < 0) := fun z => z.elim h13 (fun z => z.elim h19 (fun z => z.elim h26 (fun z => z.elim h35 h42)))
                refine lv_iconst (v := 0) hx hb d_Mo_writeOrder_49 (by decide) ?_
                refine va_put (D := D) (ci := 13) (v := .int 0) (ty := .int) (C := R_Mo) (T := F_Mo) (N := 54) hx hb hts i_Mo t_Mo t_Mo_ok n_Mo hown hK hP hD hS 0 rfl rfl 0 (by decide) (hts _ wd_1088) (fun _ h9 => h9) rfl (by decide +kernel) rfl rfl (Nat.le_of_ble_eq_true rfl) d_Mo_writeOrder_50 (fun H locs hP hD hS => ?_)
                have hP : va_P D classes [(h, .inr (13, mO r 0 (nI T.length) le lv pg pn pl rs)), (r 1, .inl (cI, 9400, .inl tp)), (r 51, .inl (cI, 8192, .inl wr)), (r 52, .inl (cI, 4200, .inl ro))] H := hP
                have hD : va_D A [(h, .inr (13, mO r 0 (nI T.length) le lv pg pn pl rs)), (r 1, .inl (cI, 9400, .inl tp)), (r 51, .inl (cI, 8192, .inl wr)), (r 52, .inl (cI, 4200, .inl ro))] := hD
                refine lv_aload_n hx hb d_Mo_writeOrder_53 rfl (lv_at hl 0 rfl) ?_
                refine va_get (D := D) (ci := 13) (v := .int 0) (C := R_Mo) (T := F_Mo) (N := 54) hx hb hts i_Mo hown hK hP 0 rfl rfl 0 (by decide) (hts _ wd_1088) (fun _ h9 => h9) rfl d_Mo_writeOrder_54 ?_
                refine lv_if_le (tgt := 62) hx hb d_Mo_writeOrder_57 rfl (fun h57 => ?_) (fun h9 => absurd h9 (by decide))
                refine lv_aload_n hx hb d_Mo_writeOrder_62 rfl (lv_at hl 0 rfl) ?_
                refine lv_sipush (v := 184) hx hb d_Mo_writeOrder_63 (by decide) ?_
                have hPc := hP.sub (ws' := [(h, .inr (13, mO r 0 (nI T.length) le lv pg pn pl rs))]) [0] rfl
                have hKc := hK.sub (tys' := []) [] rfl
                refine z_ci (va_runV (As := [.int (nI 184)]) (rest := []) ⟨hx, hb, hml, hown, hts⟩ (c_Mo_hasRoom l D cI h r 0 le lv pg pn pl rs T.length 184 hn (by omega)) (z_cV hN wd_1443 wd_67 wd_1440 hd_Mo_hasRoom rfl rfl ⟨Nat.le_of_ble_eq_true rfl, Nat.le_of_ble_eq_true rfl⟩ wd_1442 wd_53) (z_preV (va_recv (ci := 13) (q0 := 0) hK hP rfl rfl) hPc hKc hN) rfl rfl hl.1 rfl (lv_room (Nat.le_of_ble_eq_true rfl)) d_Mo_writeOrder_66 ⟨Nat.le_of_ble_eq_true rfl, Nat.le_of_ble_eq_true rfl⟩) (fun r66 e66 => ?_)
                subst e66
                refine lv_if_ne (tgt := 74) hx hb d_Mo_writeOrder_69 rfl (fun h69 => ?_) (fun h69 => ?_)
                · have h69 : T.length + 188 ≤ 9400 := mp_room (k := 184) h69
                  refine lv_iload_n hx hb d_Mo_writeOrder_74 rfl (lv_at hl 3 rfl) ?_
                  refine lv_iconst (v := 2) hx hb d_Mo_writeOrder_75 (by decide) ?_
                  refine lv_ishr hx hb d_Mo_writeOrder_76 ?_
                  refine lv_iconst (v := 1) hx hb d_Mo_writeOrder_77 (by decide) ?_
                  refine lv_iand hx hb d_Mo_writeOrder_78 ?_
                  refine lv_iconst (v := 1) hx hb d_Mo_writeOrder_79 (by decide) ?_
                  suffices key80 : W p l e ({ frames := 2, cells := 0, slots := 0, locals := 47 }) s m ([.ref h, .int (nI i9), .int nm, .int how, .long t0, .long ln]).toArray below meth cd H locs 0 0 (MQ below (va_Qi (fun r0 (u : MWQ) => (((nI i9) < 0 ∨ 8191 < (nI i9) ∨ how < 0 ∨ 63 < how ∨ t0 < 0 ∨ 8589934592 ≤ t0 ∨ ln < 0) ∧ r0 = 0 ∧ u = (1, nI T.length, rs, tp, wr, ro)) ∨ (¬ (how < 0 ∨ 63 < how ∨ t0 < 0 ∨ 8589934592 ≤ t0 ∨ ln < 0) ∧ ∃ a9 : Nat, (nI i9) = nI a9 ∧ a9 ≤ 8191 ∧ ((¬ T.length + 188 ≤ 9400 ∧ r0 = -1 ∧ u = (0, nI T.length, rs, tp, wr, ro)) ∨ (T.length + 188 ≤ 9400 ∧ MW T (sealL 3 (moL nm how t0 ln)) a9 wf wr u r0)))) (fun (u : MWQ) t => zW D (A) [(h, .inr (13, mO r u.1 u.2.1 le lv pg pn pl u.2.2.1)), (r 1, .inl (cI, 9400, .inl u.2.2.2.1)), (r 51, .inl (cI, 8192, .inl u.2.2.2.2.1)), (r 52, .inl (cI, 4200, .inl u.2.2.2.2.2))] [(cI, .int)] t) (A)) ([.ref h, .int (nI i9), .int nm, .int how, .long t0, .long ln]).toArray s 0 0 (A)) (F0 m 88 ls [.int (if (how >>> ((2 : Int32) &&& 31)) &&& 1 = 1 then 1 else 0)]) by
                    refine lv_icmp_ne (tgt := 87) hx hb d_Mo_writeOrder_80 rfl (fun h80 => ?_) (fun h80 => ?_)
                    · refine lv_iconst (v := 0) hx hb d_Mo_writeOrder_87 (by decide) ?_
                      refine z_topi (w := (if (how >>> ((2 : Int32) &&& 31)) &&& 1 = 1 then 1 else 0)) ((if_neg h80).symm) ?_
                      exact key80
                    · refine lv_iconst (v := 1) hx hb d_Mo_writeOrder_83 (by decide) ?_
                      refine lv_goto (tgt := 88) hx hb d_Mo_writeOrder_84 rfl ?_
                      refine z_topi (w := (if (how >>> ((2 : Int32) &&& 31)) &&& 1 = 1 then 1 else 0)) ((if_pos h80).symm) ?_
                      exact key80
                  refine lv_istore (lv' := [(8, .int (if (how >>> ((2 : Int32) &&& 31)) &&& 1 = 1 then 1 else 0)), (0, .ref h), (1, .int (nI i9)), (2, .int nm), (3, .int how), (4, .long t0), (6, .long ln)]) hx hb d_Mo_writeOrder_88 hl (by decide) rfl (fun ls hl => ?_)
                  refine lv_aload_n hx hb d_Mo_writeOrder_90 rfl (lv_at hl 1 rfl) ?_
                  refine lv_iconst (v := 0) hx hb d_Mo_writeOrder_91 (by decide) ?_
                  refine va_put (D := D) (ci := 13) (v := .int 0) (ty := .int) (C := R_Mo) (T := F_Mo) (N := 54) hx hb hts i_Mo t_Mo t_Mo_ok n_Mo hown hK hP hD hS 0 rfl rfl 53 (by decide) (hts _ wd_1141) (fun _ h9 => h9) rfl (by decide +kernel) rfl rfl (Nat.le_of_ble_eq_true rfl) d_Mo_writeOrder_92 (fun H locs hP hD hS => ?_)
                  have hP : va_P D classes [(h, .inr (13, mO r 0 (nI T.length) le lv pg pn pl 0)), (r 1, .inl (cI, 9400, .inl tp)), (r 51, .inl (cI, 8192, .inl wr)), (r 52, .inl (cI, 4200, .inl ro))] H := hP
                  have hD : va_D A [(h, .inr (13, mO r 0 (nI T.length) le lv pg pn pl 0)), (r 1, .inl (cI, 9400, .inl tp)), (r 51, .inl (cI, 8192, .inl wr)), (r 52, .inl (cI, 4200, .inl ro))] := hD
                  refine lv_aload_n hx hb d_Mo_writeOrder_95 rfl (lv_at hl 1 rfl) ?_
                  refine lv_lconst (v := 0) hx hb d_Mo_writeOrder_96 (by decide) ?_
                  refine lv_iconst (v := 1) hx hb d_Mo_writeOrder_97 (by decide) ?_
                  have hPc := hP.sub (ws' := [(h, .inr (13, mO r 0 (nI T.length) le lv pg pn pl (nI ([] : List Int32).length))), (r 52, .inl (cI, 4200, .inl ro))]) [0, 3] rfl
                  have hKc := hK.sub (tys' := [(cI, .int)]) [0] rfl
                  have hDc := hD.sub (ws' := [(h, .inr (13, mO r 0 (nI T.length) le lv pg pn pl (nI ([] : List Int32).length))), (r 52, .inl (cI, 4200, .inl ro))]) [0, 3] (by decide) rfl
                  have hFc := va_free (wc := [(h, .inr (13, mO r 0 (nI T.length) le lv pg pn pl (nI ([] : List Int32).length))), (r 52, .inl (cI, 4200, .inl ro))]) hD hS hA [0, 3] rfl
                  refine va_callv (va_runV (As := [.long 0, .int (nI 1)]) (rest := []) ⟨hx, hb, hml, hown, hts⟩ (c_Mo_put l D H.size cI h r 0 (nI T.length) le lv pg pn pl ([] : List Int32) ro 0 1 rl_nil (by (try simp only [List.length_append, bs_len, List.length_nil]); omega) (by omega) (by omega)) (z_cV hN wd_1451 wd_67 wd_1448 hd_Mo_put rfl rfl ⟨Nat.le_of_ble_eq_true rfl, Nat.le_of_ble_eq_true rfl⟩ wd_1450 wd_55) (z_preVm (va_recv (ci := 13) (q0 := 0) hK hP rfl rfl) hPc hKc hN hDc) rfl rfl hl.1 rfl (lv_room (Nat.le_of_ble_eq_true rfl)) d_Mo_writeOrder_98 ⟨Nat.le_of_ble_eq_true rfl, Nat.le_of_ble_eq_true rfl⟩) hS (fun q _ h => hFc q h) hFc (fun g98 t H locs ht hvm e98 hB hz1 hk1 hS => ?_)
                  obtain ⟨hP1, hK1, hD1⟩ := hB
                  rw [ht] at hP1
                  obtain ⟨hP, hD⟩ := va_join (wr := [(r 1, .inl (cI, 9400, .inl tp)), (r 51, .inl (cI, 8192, .inl wr))]) (w1 := [(h, .inr (13, mO r 0 (nI T.length) le lv pg pn pl (nI (([] : List Int32) ++ bsL 0 1).length))), (r 52, .inl (cI, 4200, .inl g98))]) hP hD [0, 3] [1, 2] rfl rfl (by decide) (by decide) hk1 hFc hP1 hD1
                  clear hk1 hP1 hD1 hFc hPc hDc hz1
                  have hP : va_P D classes [(r 1, .inl (cI, 9400, .inl tp)), (r 51, .inl (cI, 8192, .inl wr)), (h, .inr (13, mO r 0 (nI T.length) le lv pg pn pl (nI (([] : List Int32) ++ bsL 0 1).length))), (r 52, .inl (cI, 4200, .inl g98))] H := hP
                  have hD : va_D A [(r 1, .inl (cI, 9400, .inl tp)), (r 51, .inl (cI, 8192, .inl wr)), (h, .inr (13, mO r 0 (nI T.length) le lv pg pn pl (nI (([] : List Int32) ++ bsL 0 1).length))), (r 52, .inl (cI, 4200, .inl g98))] := hD
                  refine lv_aload_n hx hb d_Mo_writeOrder_101 rfl (lv_at hl 1 rfl) ?_
                  refine lv_ldc2 hx hb hown (hts _ wd_1477) d_Mo_writeOrder_102 ?_
                  refine lv_iconst (v := 1) hx hb d_Mo_writeOrder_105 (by decide) ?_
                  have hPc := hP.sub (ws' := [(h, .inr (13, mO r 0 (nI T.length) le lv pg pn pl (nI (([] : List Int32) ++ bsL 0 1).length))), (r 52, .inl (cI, 4200, .inl g98))]) [2, 3] rfl
                  have hKc := hK.sub (tys' := [(cI, .int)]) [0] rfl
                  have hDc := hD.sub (ws' := [(h, .inr (13, mO r 0 (nI T.length) le lv pg pn pl (nI (([] : List Int32) ++ bsL 0 1).length))), (r 52, .inl (cI, 4200, .inl g98))]) [2, 3] (by decide) rfl
                  have hFc := va_free (wc := [(h, .inr (13, mO r 0 (nI T.length) le lv pg pn pl (nI (([] : List Int32) ++ bsL 0 1).length))), (r 52, .inl (cI, 4200, .inl g98))]) hD hS hA [2, 3] rfl
                  refine va_callv (va_runV (As := [.long 252, .int (nI 1)]) (rest := []) ⟨hx, hb, hml, hown, hts⟩ (c_Mo_put l D H.size cI h r 0 (nI T.length) le lv pg pn pl (([] : List Int32) ++ bsL 0 1) g98 252 1 e98 (by (try simp only [List.length_append, bs_len, List.length_nil]); omega) (by omega) (by omega)) (z_cV hN wd_1451 wd_67 wd_1448 hd_Mo_put rfl rfl ⟨Nat.le_of_ble_eq_true rfl, Nat.le_of_ble_eq_true rfl⟩ wd_1450 wd_55) (z_preVm (va_recv (ci := 13) (q0 := 2) hK hP rfl rfl) hPc hKc hN hDc) rfl rfl hl.1 rfl (lv_room (Nat.le_of_ble_eq_true rfl)) d_Mo_writeOrder_106 ⟨Nat.le_of_ble_eq_true rfl, Nat.le_of_ble_eq_true rfl⟩) hS (fun q _ h => hFc q h) hFc (fun g106 t H locs ht hvm e106 hB hz1 hk1 hS => ?_)
                  obtain ⟨hP1, hK1, hD1⟩ := hB
                  rw [ht] at hP1
                  obtain ⟨hP, hD⟩ := va_join (wr := [(r 1, .inl (cI, 9400, .inl tp)), (r 51, .inl (cI, 8192, .inl wr))]) (w1 := [(h, .inr (13, mO r 0 (nI T.length) le lv pg pn pl (nI ((([] : List Int32) ++ bsL 0 1) ++ bsL 252 1).length))), (r 52, .inl (cI, 4200, .inl g106))]) hP hD [2, 3] [0, 1] rfl rfl (by decide) (by decide) hk1 hFc hP1 hD1
                  clear hk1 hP1 hD1 hFc hPc hDc hz1
                  have hP : va_P D classes [(r 1, .inl (cI, 9400, .inl tp)), (r 51, .inl (cI, 8192, .inl wr)), (h, .inr (13, mO r 0 (nI T.length) le lv pg pn pl (nI ((([] : List Int32) ++ bsL 0 1) ++ bsL 252 1).length))), (r 52, .inl (cI, 4200, .inl g106))] H := hP
                  have hD : va_D A [(r 1, .inl (cI, 9400, .inl tp)), (r 51, .inl (cI, 8192, .inl wr)), (h, .inr (13, mO r 0 (nI T.length) le lv pg pn pl (nI ((([] : List Int32) ++ bsL 0 1) ++ bsL 252 1).length))), (r 52, .inl (cI, 4200, .inl g106))] := hD
                  refine lv_aload_n hx hb d_Mo_writeOrder_109 rfl (lv_at hl 1 rfl) ?_
                  refine lv_lconst (v := 0) hx hb d_Mo_writeOrder_110 (by decide) ?_
                  refine lv_iconst (v := 2) hx hb d_Mo_writeOrder_111 (by decide) ?_
                  have hPc := hP.sub (ws' := [(h, .inr (13, mO r 0 (nI T.length) le lv pg pn pl (nI ((([] : List Int32) ++ bsL 0 1) ++ bsL 252 1).length))), (r 52, .inl (cI, 4200, .inl g106))]) [2, 3] rfl
                  have hKc := hK.sub (tys' := [(cI, .int)]) [0] rfl
                  have hDc := hD.sub (ws' := [(h, .inr (13, mO r 0 (nI T.length) le lv pg pn pl (nI ((([] : List Int32) ++ bsL 0 1) ++ bsL 252 1).length))), (r 52, .inl (cI, 4200, .inl g106))]) [2, 3] (by decide) rfl
                  have hFc := va_free (wc := [(h, .inr (13, mO r 0 (nI T.length) le lv pg pn pl (nI ((([] : List Int32) ++ bsL 0 1) ++ bsL 252 1).length))), (r 52, .inl (cI, 4200, .inl g106))]) hD hS hA [2, 3] rfl
                  refine va_callv (va_runV (As := [.long 0, .int (nI 2)]) (rest := []) ⟨hx, hb, hml, hown, hts⟩ (c_Mo_put l D H.size cI h r 0 (nI T.length) le lv pg pn pl ((([] : List Int32) ++ bsL 0 1) ++ bsL 252 1) g106 0 2 e106 (by (try simp only [List.length_append, bs_len, List.length_nil]); omega) (by omega) (by omega)) (z_cV hN wd_1451 wd_67 wd_1448 hd_Mo_put rfl rfl ⟨Nat.le_of_ble_eq_true rfl, Nat.le_of_ble_eq_true rfl⟩ wd_1450 wd_55) (z_preVm (va_recv (ci := 13) (q0 := 2) hK hP rfl rfl) hPc hKc hN hDc) rfl rfl hl.1 rfl (lv_room (Nat.le_of_ble_eq_true rfl)) d_Mo_writeOrder_112 ⟨Nat.le_of_ble_eq_true rfl, Nat.le_of_ble_eq_true rfl⟩) hS (fun q _ h => hFc q h) hFc (fun g112 t H locs ht hvm e112 hB hz1 hk1 hS => ?_)
                  obtain ⟨hP1, hK1, hD1⟩ := hB
                  rw [ht] at hP1
                  obtain ⟨hP, hD⟩ := va_join (wr := [(r 1, .inl (cI, 9400, .inl tp)), (r 51, .inl (cI, 8192, .inl wr))]) (w1 := [(h, .inr (13, mO r 0 (nI T.length) le lv pg pn pl (nI (((([] : List Int32) ++ bsL 0 1) ++ bsL 252 1) ++ bsL 0 2).length))), (r 52, .inl (cI, 4200, .inl g112))]) hP hD [2, 3] [0, 1] rfl rfl (by decide) (by decide) hk1 hFc hP1 hD1
                  clear hk1 hP1 hD1 hFc hPc hDc hz1
                  have hP : va_P D classes [(r 1, .inl (cI, 9400, .inl tp)), (r 51, .inl (cI, 8192, .inl wr)), (h, .inr (13, mO r 0 (nI T.length) le lv pg pn pl (nI (((([] : List Int32) ++ bsL 0 1) ++ bsL 252 1) ++ bsL 0 2).length))), (r 52, .inl (cI, 4200, .inl g112))] H := hP
                  have hD : va_D A [(r 1, .inl (cI, 9400, .inl tp)), (r 51, .inl (cI, 8192, .inl wr)), (h, .inr (13, mO r 0 (nI T.length) le lv pg pn pl (nI (((([] : List Int32) ++ bsL 0 1) ++ bsL 252 1) ++ bsL 0 2).length))), (r 52, .inl (cI, 4200, .inl g112))] := hD
                  refine lv_aload_n hx hb d_Mo_writeOrder_115 rfl (lv_at hl 1 rfl) ?_
                  refine lv_lconst (v := 0) hx hb d_Mo_writeOrder_116 (by decide) ?_
                  refine lv_iconst (v := 1) hx hb d_Mo_writeOrder_117 (by decide) ?_
                  have hPc := hP.sub (ws' := [(h, .inr (13, mO r 0 (nI T.length) le lv pg pn pl (nI (((([] : List Int32) ++ bsL 0 1) ++ bsL 252 1) ++ bsL 0 2).length))), (r 52, .inl (cI, 4200, .inl g112))]) [2, 3] rfl
                  have hKc := hK.sub (tys' := [(cI, .int)]) [0] rfl
                  have hDc := hD.sub (ws' := [(h, .inr (13, mO r 0 (nI T.length) le lv pg pn pl (nI (((([] : List Int32) ++ bsL 0 1) ++ bsL 252 1) ++ bsL 0 2).length))), (r 52, .inl (cI, 4200, .inl g112))]) [2, 3] (by decide) rfl
                  have hFc := va_free (wc := [(h, .inr (13, mO r 0 (nI T.length) le lv pg pn pl (nI (((([] : List Int32) ++ bsL 0 1) ++ bsL 252 1) ++ bsL 0 2).length))), (r 52, .inl (cI, 4200, .inl g112))]) hD hS hA [2, 3] rfl
                  refine va_callv (va_runV (As := [.long 0, .int (nI 1)]) (rest := []) ⟨hx, hb, hml, hown, hts⟩ (c_Mo_put l D H.size cI h r 0 (nI T.length) le lv pg pn pl (((([] : List Int32) ++ bsL 0 1) ++ bsL 252 1) ++ bsL 0 2) g112 0 1 e112 (by (try simp only [List.length_append, bs_len, List.length_nil]); omega) (by omega) (by omega)) (z_cV hN wd_1451 wd_67 wd_1448 hd_Mo_put rfl rfl ⟨Nat.le_of_ble_eq_true rfl, Nat.le_of_ble_eq_true rfl⟩ wd_1450 wd_55) (z_preVm (va_recv (ci := 13) (q0 := 2) hK hP rfl rfl) hPc hKc hN hDc) rfl rfl hl.1 rfl (lv_room (Nat.le_of_ble_eq_true rfl)) d_Mo_writeOrder_118 ⟨Nat.le_of_ble_eq_true rfl, Nat.le_of_ble_eq_true rfl⟩) hS (fun q _ h => hFc q h) hFc (fun g118 t H locs ht hvm e118 hB hz1 hk1 hS => ?_)
                  obtain ⟨hP1, hK1, hD1⟩ := hB
                  rw [ht] at hP1
                  obtain ⟨hP, hD⟩ := va_join (wr := [(r 1, .inl (cI, 9400, .inl tp)), (r 51, .inl (cI, 8192, .inl wr))]) (w1 := [(h, .inr (13, mO r 0 (nI T.length) le lv pg pn pl (nI ((((([] : List Int32) ++ bsL 0 1) ++ bsL 252 1) ++ bsL 0 2) ++ bsL 0 1).length))), (r 52, .inl (cI, 4200, .inl g118))]) hP hD [2, 3] [0, 1] rfl rfl (by decide) (by decide) hk1 hFc hP1 hD1
                  clear hk1 hP1 hD1 hFc hPc hDc hz1
                  have hP : va_P D classes [(r 1, .inl (cI, 9400, .inl tp)), (r 51, .inl (cI, 8192, .inl wr)), (h, .inr (13, mO r 0 (nI T.length) le lv pg pn pl (nI ((((([] : List Int32) ++ bsL 0 1) ++ bsL 252 1) ++ bsL 0 2) ++ bsL 0 1).length))), (r 52, .inl (cI, 4200, .inl g118))] H := hP
                  have hD : va_D A [(r 1, .inl (cI, 9400, .inl tp)), (r 51, .inl (cI, 8192, .inl wr)), (h, .inr (13, mO r 0 (nI T.length) le lv pg pn pl (nI ((((([] : List Int32) ++ bsL 0 1) ++ bsL 252 1) ++ bsL 0 2) ++ bsL 0 1).length))), (r 52, .inl (cI, 4200, .inl g118))] := hD
                  refine lv_aload_n hx hb d_Mo_writeOrder_121 rfl (lv_at hl 1 rfl) ?_
                  refine lv_ldc2 hx hb hown (hts _ wd_1478) d_Mo_writeOrder_122 ?_
                  refine lv_lload hx hb d_Mo_writeOrder_125 (lv_at hl 6 rfl) ?_
                  refine lv_bipush (v := 33) hx hb d_Mo_writeOrder_127 (by decide) ?_
                  refine lv_lshr (v := ln >>> ((33 : Int32).toInt64 &&& 63)) hx hb d_Mo_writeOrder_129 rfl ?_
                  refine lv_lor hx hb d_Mo_writeOrder_130 ?_
                  refine lv_iconst (v := 5) hx hb d_Mo_writeOrder_131 (by decide) ?_
                  have hPc := hP.sub (ws' := [(h, .inr (13, mO r 0 (nI T.length) le lv pg pn pl (nI ((((([] : List Int32) ++ bsL 0 1) ++ bsL 252 1) ++ bsL 0 2) ++ bsL 0 1).length))), (r 52, .inl (cI, 4200, .inl g118))]) [2, 3] rfl
                  have hKc := hK.sub (tys' := [(cI, .int)]) [0] rfl
                  have hDc := hD.sub (ws' := [(h, .inr (13, mO r 0 (nI T.length) le lv pg pn pl (nI ((((([] : List Int32) ++ bsL 0 1) ++ bsL 252 1) ++ bsL 0 2) ++ bsL 0 1).length))), (r 52, .inl (cI, 4200, .inl g118))]) [2, 3] (by decide) rfl
                  have hFc := va_free (wc := [(h, .inr (13, mO r 0 (nI T.length) le lv pg pn pl (nI ((((([] : List Int32) ++ bsL 0 1) ++ bsL 252 1) ++ bsL 0 2) ++ bsL 0 1).length))), (r 52, .inl (cI, 4200, .inl g118))]) hD hS hA [2, 3] rfl
                  refine va_callv (va_runV (As := [.long (541165879296 ||| (ln >>> ((33 : Int32).toInt64 &&& 63))), .int (nI 5)]) (rest := []) ⟨hx, hb, hml, hown, hts⟩ (c_Mo_put l D H.size cI h r 0 (nI T.length) le lv pg pn pl ((((([] : List Int32) ++ bsL 0 1) ++ bsL 252 1) ++ bsL 0 2) ++ bsL 0 1) g118 (541165879296 ||| (ln >>> ((33 : Int32).toInt64 &&& 63))) 5 e118 (by (try simp only [List.length_append, bs_len, List.length_nil]); omega) (by omega) (by omega)) (z_cV hN wd_1451 wd_67 wd_1448 hd_Mo_put rfl rfl ⟨Nat.le_of_ble_eq_true rfl, Nat.le_of_ble_eq_true rfl⟩ wd_1450 wd_55) (z_preVm (va_recv (ci := 13) (q0 := 2) hK hP rfl rfl) hPc hKc hN hDc) rfl rfl hl.1 rfl (lv_room (Nat.le_of_ble_eq_true rfl)) d_Mo_writeOrder_132 ⟨Nat.le_of_ble_eq_true rfl, Nat.le_of_ble_eq_true rfl⟩) hS (fun q _ h => hFc q h) hFc (fun g132 t H locs ht hvm e132 hB hz1 hk1 hS => ?_)
                  obtain ⟨hP1, hK1, hD1⟩ := hB
                  rw [ht] at hP1
                  obtain ⟨hP, hD⟩ := va_join (wr := [(r 1, .inl (cI, 9400, .inl tp)), (r 51, .inl (cI, 8192, .inl wr))]) (w1 := [(h, .inr (13, mO r 0 (nI T.length) le lv pg pn pl (nI (((((([] : List Int32) ++ bsL 0 1) ++ bsL 252 1) ++ bsL 0 2) ++ bsL 0 1) ++ bsL (541165879296 ||| (ln >>> ((33 : Int32).toInt64 &&& 63))) 5).length))), (r 52, .inl (cI, 4200, .inl g132))]) hP hD [2, 3] [0, 1] rfl rfl (by decide) (by decide) hk1 hFc hP1 hD1
                  clear hk1 hP1 hD1 hFc hPc hDc hz1
                  have hP : va_P D classes [(r 1, .inl (cI, 9400, .inl tp)), (r 51, .inl (cI, 8192, .inl wr)), (h, .inr (13, mO r 0 (nI T.length) le lv pg pn pl (nI (((((([] : List Int32) ++ bsL 0 1) ++ bsL 252 1) ++ bsL 0 2) ++ bsL 0 1) ++ bsL (541165879296 ||| (ln >>> ((33 : Int32).toInt64 &&& 63))) 5).length))), (r 52, .inl (cI, 4200, .inl g132))] H := hP
                  have hD : va_D A [(r 1, .inl (cI, 9400, .inl tp)), (r 51, .inl (cI, 8192, .inl wr)), (h, .inr (13, mO r 0 (nI T.length) le lv pg pn pl (nI (((((([] : List Int32) ++ bsL 0 1) ++ bsL 252 1) ++ bsL 0 2) ++ bsL 0 1) ++ bsL (541165879296 ||| (ln >>> ((33 : Int32).toInt64 &&& 63))) 5).length))), (r 52, .inl (cI, 4200, .inl g132))] := hD
                  refine lv_aload_n hx hb d_Mo_writeOrder_135 rfl (lv_at hl 1 rfl) ?_
                  refine lv_ldc2 hx hb hown (hts _ wd_1414) d_Mo_writeOrder_136 ?_
                  refine lv_iconst (v := 4) hx hb d_Mo_writeOrder_139 (by decide) ?_
                  have hPc := hP.sub (ws' := [(h, .inr (13, mO r 0 (nI T.length) le lv pg pn pl (nI (((((([] : List Int32) ++ bsL 0 1) ++ bsL 252 1) ++ bsL 0 2) ++ bsL 0 1) ++ bsL (541165879296 ||| (ln >>> ((33 : Int32).toInt64 &&& 63))) 5).length))), (r 52, .inl (cI, 4200, .inl g132))]) [2, 3] rfl
                  have hKc := hK.sub (tys' := [(cI, .int)]) [0] rfl
                  have hDc := hD.sub (ws' := [(h, .inr (13, mO r 0 (nI T.length) le lv pg pn pl (nI (((((([] : List Int32) ++ bsL 0 1) ++ bsL 252 1) ++ bsL 0 2) ++ bsL 0 1) ++ bsL (541165879296 ||| (ln >>> ((33 : Int32).toInt64 &&& 63))) 5).length))), (r 52, .inl (cI, 4200, .inl g132))]) [2, 3] (by decide) rfl
                  have hFc := va_free (wc := [(h, .inr (13, mO r 0 (nI T.length) le lv pg pn pl (nI (((((([] : List Int32) ++ bsL 0 1) ++ bsL 252 1) ++ bsL 0 2) ++ bsL 0 1) ++ bsL (541165879296 ||| (ln >>> ((33 : Int32).toInt64 &&& 63))) 5).length))), (r 52, .inl (cI, 4200, .inl g132))]) hD hS hA [2, 3] rfl
                  refine va_callv (va_runV (As := [.long 4294967295, .int (nI 4)]) (rest := []) ⟨hx, hb, hml, hown, hts⟩ (c_Mo_put l D H.size cI h r 0 (nI T.length) le lv pg pn pl (((((([] : List Int32) ++ bsL 0 1) ++ bsL 252 1) ++ bsL 0 2) ++ bsL 0 1) ++ bsL (541165879296 ||| (ln >>> ((33 : Int32).toInt64 &&& 63))) 5) g132 4294967295 4 e132 (by (try simp only [List.length_append, bs_len, List.length_nil]); omega) (by omega) (by omega)) (z_cV hN wd_1451 wd_67 wd_1448 hd_Mo_put rfl rfl ⟨Nat.le_of_ble_eq_true rfl, Nat.le_of_ble_eq_true rfl⟩ wd_1450 wd_55) (z_preVm (va_recv (ci := 13) (q0 := 2) hK hP rfl rfl) hPc hKc hN hDc) rfl rfl hl.1 rfl (lv_room (Nat.le_of_ble_eq_true rfl)) d_Mo_writeOrder_140 ⟨Nat.le_of_ble_eq_true rfl, Nat.le_of_ble_eq_true rfl⟩) hS (fun q _ h => hFc q h) hFc (fun g140 t H locs ht hvm e140 hB hz1 hk1 hS => ?_)
                  obtain ⟨hP1, hK1, hD1⟩ := hB
                  rw [ht] at hP1
                  obtain ⟨hP, hD⟩ := va_join (wr := [(r 1, .inl (cI, 9400, .inl tp)), (r 51, .inl (cI, 8192, .inl wr))]) (w1 := [(h, .inr (13, mO r 0 (nI T.length) le lv pg pn pl (nI ((((((([] : List Int32) ++ bsL 0 1) ++ bsL 252 1) ++ bsL 0 2) ++ bsL 0 1) ++ bsL (541165879296 ||| (ln >>> ((33 : Int32).toInt64 &&& 63))) 5) ++ bsL 4294967295 4).length))), (r 52, .inl (cI, 4200, .inl g140))]) hP hD [2, 3] [0, 1] rfl rfl (by decide) (by decide) hk1 hFc hP1 hD1
                  clear hk1 hP1 hD1 hFc hPc hDc hz1
                  have hP : va_P D classes [(r 1, .inl (cI, 9400, .inl tp)), (r 51, .inl (cI, 8192, .inl wr)), (h, .inr (13, mO r 0 (nI T.length) le lv pg pn pl (nI ((((((([] : List Int32) ++ bsL 0 1) ++ bsL 252 1) ++ bsL 0 2) ++ bsL 0 1) ++ bsL (541165879296 ||| (ln >>> ((33 : Int32).toInt64 &&& 63))) 5) ++ bsL 4294967295 4).length))), (r 52, .inl (cI, 4200, .inl g140))] H := hP
                  have hD : va_D A [(r 1, .inl (cI, 9400, .inl tp)), (r 51, .inl (cI, 8192, .inl wr)), (h, .inr (13, mO r 0 (nI T.length) le lv pg pn pl (nI ((((((([] : List Int32) ++ bsL 0 1) ++ bsL 252 1) ++ bsL 0 2) ++ bsL 0 1) ++ bsL (541165879296 ||| (ln >>> ((33 : Int32).toInt64 &&& 63))) 5) ++ bsL 4294967295 4).length))), (r 52, .inl (cI, 4200, .inl g140))] := hD
                  refine lv_aload_n hx hb d_Mo_writeOrder_143 rfl (lv_at hl 1 rfl) ?_
                  refine lv_ldc2 hx hb hown (hts _ wd_1479) d_Mo_writeOrder_144 ?_
                  refine lv_iconst (v := 1) hx hb d_Mo_writeOrder_147 (by decide) ?_
                  have hPc := hP.sub (ws' := [(h, .inr (13, mO r 0 (nI T.length) le lv pg pn pl (nI ((((((([] : List Int32) ++ bsL 0 1) ++ bsL 252 1) ++ bsL 0 2) ++ bsL 0 1) ++ bsL (541165879296 ||| (ln >>> ((33 : Int32).toInt64 &&& 63))) 5) ++ bsL 4294967295 4).length))), (r 52, .inl (cI, 4200, .inl g140))]) [2, 3] rfl
                  have hKc := hK.sub (tys' := [(cI, .int)]) [0] rfl
                  have hDc := hD.sub (ws' := [(h, .inr (13, mO r 0 (nI T.length) le lv pg pn pl (nI ((((((([] : List Int32) ++ bsL 0 1) ++ bsL 252 1) ++ bsL 0 2) ++ bsL 0 1) ++ bsL (541165879296 ||| (ln >>> ((33 : Int32).toInt64 &&& 63))) 5) ++ bsL 4294967295 4).length))), (r 52, .inl (cI, 4200, .inl g140))]) [2, 3] (by decide) rfl
                  have hFc := va_free (wc := [(h, .inr (13, mO r 0 (nI T.length) le lv pg pn pl (nI ((((((([] : List Int32) ++ bsL 0 1) ++ bsL 252 1) ++ bsL 0 2) ++ bsL 0 1) ++ bsL (541165879296 ||| (ln >>> ((33 : Int32).toInt64 &&& 63))) 5) ++ bsL 4294967295 4).length))), (r 52, .inl (cI, 4200, .inl g140))]) hD hS hA [2, 3] rfl
                  refine va_callv (va_runV (As := [.long 5, .int (nI 1)]) (rest := []) ⟨hx, hb, hml, hown, hts⟩ (c_Mo_put l D H.size cI h r 0 (nI T.length) le lv pg pn pl ((((((([] : List Int32) ++ bsL 0 1) ++ bsL 252 1) ++ bsL 0 2) ++ bsL 0 1) ++ bsL (541165879296 ||| (ln >>> ((33 : Int32).toInt64 &&& 63))) 5) ++ bsL 4294967295 4) g140 5 1 e140 (by (try simp only [List.length_append, bs_len, List.length_nil]); omega) (by omega) (by omega)) (z_cV hN wd_1451 wd_67 wd_1448 hd_Mo_put rfl rfl ⟨Nat.le_of_ble_eq_true rfl, Nat.le_of_ble_eq_true rfl⟩ wd_1450 wd_55) (z_preVm (va_recv (ci := 13) (q0 := 2) hK hP rfl rfl) hPc hKc hN hDc) rfl rfl hl.1 rfl (lv_room (Nat.le_of_ble_eq_true rfl)) d_Mo_writeOrder_148 ⟨Nat.le_of_ble_eq_true rfl, Nat.le_of_ble_eq_true rfl⟩) hS (fun q _ h => hFc q h) hFc (fun g148 t H locs ht hvm e148 hB hz1 hk1 hS => ?_)
                  obtain ⟨hP1, hK1, hD1⟩ := hB
                  rw [ht] at hP1
                  obtain ⟨hP, hD⟩ := va_join (wr := [(r 1, .inl (cI, 9400, .inl tp)), (r 51, .inl (cI, 8192, .inl wr))]) (w1 := [(h, .inr (13, mO r 0 (nI T.length) le lv pg pn pl (nI (((((((([] : List Int32) ++ bsL 0 1) ++ bsL 252 1) ++ bsL 0 2) ++ bsL 0 1) ++ bsL (541165879296 ||| (ln >>> ((33 : Int32).toInt64 &&& 63))) 5) ++ bsL 4294967295 4) ++ bsL 5 1).length))), (r 52, .inl (cI, 4200, .inl g148))]) hP hD [2, 3] [0, 1] rfl rfl (by decide) (by decide) hk1 hFc hP1 hD1
                  clear hk1 hP1 hD1 hFc hPc hDc hz1
                  have hP : va_P D classes [(r 1, .inl (cI, 9400, .inl tp)), (r 51, .inl (cI, 8192, .inl wr)), (h, .inr (13, mO r 0 (nI T.length) le lv pg pn pl (nI (((((((([] : List Int32) ++ bsL 0 1) ++ bsL 252 1) ++ bsL 0 2) ++ bsL 0 1) ++ bsL (541165879296 ||| (ln >>> ((33 : Int32).toInt64 &&& 63))) 5) ++ bsL 4294967295 4) ++ bsL 5 1).length))), (r 52, .inl (cI, 4200, .inl g148))] H := hP
                  have hD : va_D A [(r 1, .inl (cI, 9400, .inl tp)), (r 51, .inl (cI, 8192, .inl wr)), (h, .inr (13, mO r 0 (nI T.length) le lv pg pn pl (nI (((((((([] : List Int32) ++ bsL 0 1) ++ bsL 252 1) ++ bsL 0 2) ++ bsL 0 1) ++ bsL (541165879296 ||| (ln >>> ((33 : Int32).toInt64 &&& 63))) 5) ++ bsL 4294967295 4) ++ bsL 5 1).length))), (r 52, .inl (cI, 4200, .inl g148))] := hD
                  refine lv_aload_n hx hb d_Mo_writeOrder_151 rfl (lv_at hl 1 rfl) ?_
                  refine lv_iload_n hx hb d_Mo_writeOrder_152 rfl (lv_at hl 3 rfl) ?_
                  refine lv_i2l (v := nm.toInt64) hx hb d_Mo_writeOrder_153 rfl ?_
                  refine lv_ldc2 hx hb hown (hts _ wd_1414) d_Mo_writeOrder_154 ?_
                  refine lv_land hx hb d_Mo_writeOrder_157 ?_
                  refine lv_iconst (v := 4) hx hb d_Mo_writeOrder_158 (by decide) ?_
                  have hPc := hP.sub (ws' := [(h, .inr (13, mO r 0 (nI T.length) le lv pg pn pl (nI (((((((([] : List Int32) ++ bsL 0 1) ++ bsL 252 1) ++ bsL 0 2) ++ bsL 0 1) ++ bsL (541165879296 ||| (ln >>> ((33 : Int32).toInt64 &&& 63))) 5) ++ bsL 4294967295 4) ++ bsL 5 1).length))), (r 52, .inl (cI, 4200, .inl g148))]) [2, 3] rfl
                  have hKc := hK.sub (tys' := [(cI, .int)]) [0] rfl
                  have hDc := hD.sub (ws' := [(h, .inr (13, mO r 0 (nI T.length) le lv pg pn pl (nI (((((((([] : List Int32) ++ bsL 0 1) ++ bsL 252 1) ++ bsL 0 2) ++ bsL 0 1) ++ bsL (541165879296 ||| (ln >>> ((33 : Int32).toInt64 &&& 63))) 5) ++ bsL 4294967295 4) ++ bsL 5 1).length))), (r 52, .inl (cI, 4200, .inl g148))]) [2, 3] (by decide) rfl
                  have hFc := va_free (wc := [(h, .inr (13, mO r 0 (nI T.length) le lv pg pn pl (nI (((((((([] : List Int32) ++ bsL 0 1) ++ bsL 252 1) ++ bsL 0 2) ++ bsL 0 1) ++ bsL (541165879296 ||| (ln >>> ((33 : Int32).toInt64 &&& 63))) 5) ++ bsL 4294967295 4) ++ bsL 5 1).length))), (r 52, .inl (cI, 4200, .inl g148))]) hD hS hA [2, 3] rfl
                  refine va_callv (va_runV (As := [.long (nm.toInt64 &&& 4294967295), .int (nI 4)]) (rest := []) ⟨hx, hb, hml, hown, hts⟩ (c_Mo_put l D H.size cI h r 0 (nI T.length) le lv pg pn pl (((((((([] : List Int32) ++ bsL 0 1) ++ bsL 252 1) ++ bsL 0 2) ++ bsL 0 1) ++ bsL (541165879296 ||| (ln >>> ((33 : Int32).toInt64 &&& 63))) 5) ++ bsL 4294967295 4) ++ bsL 5 1) g148 (nm.toInt64 &&& 4294967295) 4 e148 (by (try simp only [List.length_append, bs_len, List.length_nil]); omega) (by omega) (by omega)) (z_cV hN wd_1451 wd_67 wd_1448 hd_Mo_put rfl rfl ⟨Nat.le_of_ble_eq_true rfl, Nat.le_of_ble_eq_true rfl⟩ wd_1450 wd_55) (z_preVm (va_recv (ci := 13) (q0 := 2) hK hP rfl rfl) hPc hKc hN hDc) rfl rfl hl.1 rfl (lv_room (Nat.le_of_ble_eq_true rfl)) d_Mo_writeOrder_159 ⟨Nat.le_of_ble_eq_true rfl, Nat.le_of_ble_eq_true rfl⟩) hS (fun q _ h => hFc q h) hFc (fun g159 t H locs ht hvm e159 hB hz1 hk1 hS => ?_)
                  obtain ⟨hP1, hK1, hD1⟩ := hB
                  rw [ht] at hP1
                  obtain ⟨hP, hD⟩ := va_join (wr := [(r 1, .inl (cI, 9400, .inl tp)), (r 51, .inl (cI, 8192, .inl wr))]) (w1 := [(h, .inr (13, mO r 0 (nI T.length) le lv pg pn pl (nI ((((((((([] : List Int32) ++ bsL 0 1) ++ bsL 252 1) ++ bsL 0 2) ++ bsL 0 1) ++ bsL (541165879296 ||| (ln >>> ((33 : Int32).toInt64 &&& 63))) 5) ++ bsL 4294967295 4) ++ bsL 5 1) ++ bsL (nm.toInt64 &&& 4294967295) 4).length))), (r 52, .inl (cI, 4200, .inl g159))]) hP hD [2, 3] [0, 1] rfl rfl (by decide) (by decide) hk1 hFc hP1 hD1
                  clear hk1 hP1 hD1 hFc hPc hDc hz1
                  have hP : va_P D classes [(r 1, .inl (cI, 9400, .inl tp)), (r 51, .inl (cI, 8192, .inl wr)), (h, .inr (13, mO r 0 (nI T.length) le lv pg pn pl (nI ((((((((([] : List Int32) ++ bsL 0 1) ++ bsL 252 1) ++ bsL 0 2) ++ bsL 0 1) ++ bsL (541165879296 ||| (ln >>> ((33 : Int32).toInt64 &&& 63))) 5) ++ bsL 4294967295 4) ++ bsL 5 1) ++ bsL (nm.toInt64 &&& 4294967295) 4).length))), (r 52, .inl (cI, 4200, .inl g159))] H := hP
                  have hD : va_D A [(r 1, .inl (cI, 9400, .inl tp)), (r 51, .inl (cI, 8192, .inl wr)), (h, .inr (13, mO r 0 (nI T.length) le lv pg pn pl (nI ((((((((([] : List Int32) ++ bsL 0 1) ++ bsL 252 1) ++ bsL 0 2) ++ bsL 0 1) ++ bsL (541165879296 ||| (ln >>> ((33 : Int32).toInt64 &&& 63))) 5) ++ bsL 4294967295 4) ++ bsL 5 1) ++ bsL (nm.toInt64 &&& 4294967295) 4).length))), (r 52, .inl (cI, 4200, .inl g159))] := hD
                  refine lv_aload_n hx hb d_Mo_writeOrder_162 rfl (lv_at hl 1 rfl) ?_
                  refine lv_iload_n hx hb d_Mo_writeOrder_163 rfl (lv_at hl 4 rfl) ?_
                  refine lv_iconst (v := 2) hx hb d_Mo_writeOrder_164 (by decide) ?_
                  refine lv_irem hx hb d_Mo_writeOrder_165 (by decide) ?_
                  refine lv_iconst (v := 1) hx hb d_Mo_writeOrder_166 (by decide) ?_
                  suffices key167 : W p l e ({ frames := 2, cells := 0, slots := 0, locals := 47 }) s m ([.ref h, .int (nI i9), .int nm, .int how, .long t0, .long ln]).toArray below meth cd H locs 0 0 (MQ below (va_Qi (fun r0 (u : MWQ) => (((nI i9) < 0 ∨ 8191 < (nI i9) ∨ how < 0 ∨ 63 < how ∨ t0 < 0 ∨ 8589934592 ≤ t0 ∨ ln < 0) ∧ r0 = 0 ∧ u = (1, nI T.length, rs, tp, wr, ro)) ∨ (¬ (how < 0 ∨ 63 < how ∨ t0 < 0 ∨ 8589934592 ≤ t0 ∨ ln < 0) ∧ ∃ a9 : Nat, (nI i9) = nI a9 ∧ a9 ≤ 8191 ∧ ((¬ T.length + 188 ≤ 9400 ∧ r0 = -1 ∧ u = (0, nI T.length, rs, tp, wr, ro)) ∨ (T.length + 188 ≤ 9400 ∧ MW T (sealL 3 (moL nm how t0 ln)) a9 wf wr u r0)))) (fun (u : MWQ) t => zW D (A) [(h, .inr (13, mO r u.1 u.2.1 le lv pg pn pl u.2.2.1)), (r 1, .inl (cI, 9400, .inl u.2.2.2.1)), (r 51, .inl (cI, 8192, .inl u.2.2.2.2.1)), (r 52, .inl (cI, 4200, .inl u.2.2.2.2.2))] [(cI, .int)] t) (A)) ([.ref h, .int (nI i9), .int nm, .int how, .long t0, .long ln]).toArray s 0 0 (A)) (F0 m 179 ls [.long (if how - how / 2 * 2 = 1 then 255 else 127), .ref h]) by
                    refine lv_icmp_ne (tgt := 176) hx hb d_Mo_writeOrder_167 rfl (fun h167 => ?_) (fun h167 => ?_)
                    · refine lv_ldc2 hx hb hown (hts _ wd_1480) d_Mo_writeOrder_176 ?_
                      refine z_topl (w := (if how - how / 2 * 2 = 1 then 255 else 127)) ((if_neg h167).symm) ?_
                      exact key167
                    · refine lv_ldc2 hx hb hown (hts _ wd_1261) d_Mo_writeOrder_170 ?_
                      refine lv_goto (tgt := 179) hx hb d_Mo_writeOrder_173 rfl ?_
                      refine z_topl (w := (if how - how / 2 * 2 = 1 then 255 else 127)) ((if_pos h167).symm) ?_
                      exact key167
                  refine lv_iconst (v := 1) hx hb d_Mo_writeOrder_179 (by decide) ?_
                  have hPc := hP.sub (ws' := [(h, .inr (13, mO r 0 (nI T.length) le lv pg pn pl (nI ((((((((([] : List Int32) ++ bsL 0 1) ++ bsL 252 1) ++ bsL 0 2) ++ bsL 0 1) ++ bsL (541165879296 ||| (ln >>> ((33 : Int32).toInt64 &&& 63))) 5) ++ bsL 4294967295 4) ++ bsL 5 1) ++ bsL (nm.toInt64 &&& 4294967295) 4).length))), (r 52, .inl (cI, 4200, .inl g159))]) [2, 3] rfl
                  have hKc := hK.sub (tys' := [(cI, .int)]) [0] rfl
                  have hDc := hD.sub (ws' := [(h, .inr (13, mO r 0 (nI T.length) le lv pg pn pl (nI ((((((((([] : List Int32) ++ bsL 0 1) ++ bsL 252 1) ++ bsL 0 2) ++ bsL 0 1) ++ bsL (541165879296 ||| (ln >>> ((33 : Int32).toInt64 &&& 63))) 5) ++ bsL 4294967295 4) ++ bsL 5 1) ++ bsL (nm.toInt64 &&& 4294967295) 4).length))), (r 52, .inl (cI, 4200, .inl g159))]) [2, 3] (by decide) rfl
                  have hFc := va_free (wc := [(h, .inr (13, mO r 0 (nI T.length) le lv pg pn pl (nI ((((((((([] : List Int32) ++ bsL 0 1) ++ bsL 252 1) ++ bsL 0 2) ++ bsL 0 1) ++ bsL (541165879296 ||| (ln >>> ((33 : Int32).toInt64 &&& 63))) 5) ++ bsL 4294967295 4) ++ bsL 5 1) ++ bsL (nm.toInt64 &&& 4294967295) 4).length))), (r 52, .inl (cI, 4200, .inl g159))]) hD hS hA [2, 3] rfl
                  refine va_callv (va_runV (As := [.long (if how - how / 2 * 2 = 1 then 255 else 127), .int (nI 1)]) (rest := []) ⟨hx, hb, hml, hown, hts⟩ (c_Mo_put l D H.size cI h r 0 (nI T.length) le lv pg pn pl ((((((((([] : List Int32) ++ bsL 0 1) ++ bsL 252 1) ++ bsL 0 2) ++ bsL 0 1) ++ bsL (541165879296 ||| (ln >>> ((33 : Int32).toInt64 &&& 63))) 5) ++ bsL 4294967295 4) ++ bsL 5 1) ++ bsL (nm.toInt64 &&& 4294967295) 4) g159 (if how - how / 2 * 2 = 1 then 255 else 127) 1 e159 (by (try simp only [List.length_append, bs_len, List.length_nil]); omega) (by omega) (by omega)) (z_cV hN wd_1451 wd_67 wd_1448 hd_Mo_put rfl rfl ⟨Nat.le_of_ble_eq_true rfl, Nat.le_of_ble_eq_true rfl⟩ wd_1450 wd_55) (z_preVm (va_recv (ci := 13) (q0 := 2) hK hP rfl rfl) hPc hKc hN hDc) rfl rfl hl.1 rfl (lv_room (Nat.le_of_ble_eq_true rfl)) d_Mo_writeOrder_180 ⟨Nat.le_of_ble_eq_true rfl, Nat.le_of_ble_eq_true rfl⟩) hS (fun q _ h => hFc q h) hFc (fun g180 t H locs ht hvm e180 hB hz1 hk1 hS => ?_)
                  obtain ⟨hP1, hK1, hD1⟩ := hB
                  rw [ht] at hP1
                  obtain ⟨hP, hD⟩ := va_join (wr := [(r 1, .inl (cI, 9400, .inl tp)), (r 51, .inl (cI, 8192, .inl wr))]) (w1 := [(h, .inr (13, mO r 0 (nI T.length) le lv pg pn pl (nI (((((((((([] : List Int32) ++ bsL 0 1) ++ bsL 252 1) ++ bsL 0 2) ++ bsL 0 1) ++ bsL (541165879296 ||| (ln >>> ((33 : Int32).toInt64 &&& 63))) 5) ++ bsL 4294967295 4) ++ bsL 5 1) ++ bsL (nm.toInt64 &&& 4294967295) 4) ++ bsL (if how - how / 2 * 2 = 1 then 255 else 127) 1).length))), (r 52, .inl (cI, 4200, .inl g180))]) hP hD [2, 3] [0, 1] rfl rfl (by decide) (by decide) hk1 hFc hP1 hD1
                  clear hk1 hP1 hD1 hFc hPc hDc hz1
                  have hP : va_P D classes [(r 1, .inl (cI, 9400, .inl tp)), (r 51, .inl (cI, 8192, .inl wr)), (h, .inr (13, mO r 0 (nI T.length) le lv pg pn pl (nI (((((((((([] : List Int32) ++ bsL 0 1) ++ bsL 252 1) ++ bsL 0 2) ++ bsL 0 1) ++ bsL (541165879296 ||| (ln >>> ((33 : Int32).toInt64 &&& 63))) 5) ++ bsL 4294967295 4) ++ bsL 5 1) ++ bsL (nm.toInt64 &&& 4294967295) 4) ++ bsL (if how - how / 2 * 2 = 1 then 255 else 127) 1).length))), (r 52, .inl (cI, 4200, .inl g180))] H := hP
                  have hD : va_D A [(r 1, .inl (cI, 9400, .inl tp)), (r 51, .inl (cI, 8192, .inl wr)), (h, .inr (13, mO r 0 (nI T.length) le lv pg pn pl (nI (((((((((([] : List Int32) ++ bsL 0 1) ++ bsL 252 1) ++ bsL 0 2) ++ bsL 0 1) ++ bsL (541165879296 ||| (ln >>> ((33 : Int32).toInt64 &&& 63))) 5) ++ bsL 4294967295 4) ++ bsL 5 1) ++ bsL (nm.toInt64 &&& 4294967295) 4) ++ bsL (if how - how / 2 * 2 = 1 then 255 else 127) 1).length))), (r 52, .inl (cI, 4200, .inl g180))] := hD
                  refine lv_iload_n hx hb d_Mo_writeOrder_183 rfl (lv_at hl 4 rfl) ?_
                  refine lv_iconst (v := 2) hx hb d_Mo_writeOrder_184 (by decide) ?_
                  refine lv_irem hx hb d_Mo_writeOrder_185 (by decide) ?_
                  refine lv_if_ne (tgt := 309) hx hb d_Mo_writeOrder_186 rfl (fun h186 => ?_) (fun h186 => ?_)
                  · have hle : ((((((((([] : List Int32) ++ bsL 0 1) ++ bsL 252 1) ++ bsL 0 2) ++ bsL 0 1) ++ bsL (541165879296 ||| (ln >>> ((33 : Int32).toInt64 &&& 63))) 5) ++ bsL 4294967295 4) ++ bsL 5 1) ++ bsL (nm.toInt64 &&& 4294967295) 4) ++ bsL (if how - how / 2 * 2 = 1 then 255 else 127) 1 = moL nm how t0 ln := by unfold moL; first | (rw [if_neg h186]; rfl) | (rw [if_pos h186]; unfold moB moD; first | (rw [if_pos h231]; first | (rw [if_pos h273, List.append_nil]; rfl) | (rw [if_neg h273, List.append_nil, List.append_nil]; rfl)) | (rw [if_neg h231]; first | (rw [if_pos h237]; first | (rw [if_pos h273]; rfl) | (rw [if_neg h273, List.append_nil]; rfl)) | (rw [if_neg h237]; first | (rw [if_pos h273]; rfl) | (rw [if_neg h273, List.append_nil]; rfl))))
                    rw [hle] at hP hD e180
                    have hml2 := mo_len nm how t0 ln
                    refine lv_aload_n hx hb d_Mo_writeOrder_309 rfl (lv_at hl 1 rfl) ?_
                    refine lv_iconst (v := 3) hx hb d_Mo_writeOrder_310 (by decide) ?_
                    have hPc := hP.sub (ws' := [(h, .inr (13, mO r 0 (nI T.length) le lv pg pn pl (nI (moL nm how t0 ln).length))), (r 52, .inl (cI, 4200, .inl g180))]) [2, 3] rfl
                    have hKc := hK.sub (tys' := [(cI, .int)]) [0] rfl
                    have hDc := hD.sub (ws' := [(h, .inr (13, mO r 0 (nI T.length) le lv pg pn pl (nI (moL nm how t0 ln).length))), (r 52, .inl (cI, 4200, .inl g180))]) [2, 3] (by decide) rfl
                    have hFc := va_free (wc := [(h, .inr (13, mO r 0 (nI T.length) le lv pg pn pl (nI (moL nm how t0 ln).length))), (r 52, .inl (cI, 4200, .inl g180))]) hD hS hA [2, 3] rfl
                    refine va_callv (va_runV (As := [.int 3]) (rest := []) ⟨hx, hb, hml, hown, hts⟩ (c_Mo_sealRow l D H.size cI h r 0 (nI T.length) le lv pg pn pl (moL nm how t0 ln) g180 3 e180 hml2.1 hml2.2) (z_cV hN wd_1457 wd_67 wd_1454 hd_Mo_sealRow rfl rfl ⟨Nat.le_of_ble_eq_true rfl, Nat.le_of_ble_eq_true rfl⟩ wd_1456 wd_56) (z_preVm (va_recv (ci := 13) (q0 := 2) hK hP rfl rfl) hPc hKc hN hDc) rfl rfl hl.1 rfl (lv_room (Nat.le_of_ble_eq_true rfl)) d_Mo_writeOrder_311 ⟨Nat.le_of_ble_eq_true rfl, Nat.le_of_ble_eq_true rfl⟩) hS (fun q _ h => hFc q h) hFc (fun g311 t H locs ht hvm e311 hB hz1 hk1 hS => ?_)
                    obtain ⟨hP1, hK1, hD1⟩ := hB
                    rw [ht] at hP1
                    obtain ⟨hP, hD⟩ := va_join (wr := [(r 1, .inl (cI, 9400, .inl tp)), (r 51, .inl (cI, 8192, .inl wr))]) (w1 := [(h, .inr (13, mO r 0 (nI T.length) le lv pg pn pl (nI 184))), (r 52, .inl (cI, 4200, .inl g311))]) hP hD [2, 3] [0, 1] rfl rfl (by decide) (by decide) hk1 hFc hP1 hD1
                    clear hk1 hP1 hD1 hFc hPc hDc hz1
                    have hP : va_P D classes [(r 1, .inl (cI, 9400, .inl tp)), (r 51, .inl (cI, 8192, .inl wr)), (h, .inr (13, mO r 0 (nI T.length) le lv pg pn pl (nI 184))), (r 52, .inl (cI, 4200, .inl g311))] H := hP
                    have hD : va_D A [(r 1, .inl (cI, 9400, .inl tp)), (r 51, .inl (cI, 8192, .inl wr)), (h, .inr (13, mO r 0 (nI T.length) le lv pg pn pl (nI 184))), (r 52, .inl (cI, 4200, .inl g311))] := hD
                    have hs4 : (sealL 3 (moL nm how t0 ln)).length = 184 := sealL_len hml2.2
                    have hs5 : nI 184 = nI (sealL 3 (moL nm how t0 ln)).length := by rw [hs4]
                    rw [hs5] at hP hD
                    refine lv_aload_n hx hb d_Mo_writeOrder_314 rfl (lv_at hl 1 rfl) ?_
                    refine lv_iload_n hx hb d_Mo_writeOrder_315 rfl (lv_at hl 2 rfl) ?_
                    have hPc := hP.sub (ws' := [(h, .inr (13, mO r 0 (nI T.length) le lv pg pn pl (nI (sealL 3 (moL nm how t0 ln)).length))), (r 1, .inl (cI, 9400, .inl tp)), (r 51, .inl (cI, 8192, .inl wr)), (r 52, .inl (cI, 4200, .inl g311))]) [2, 0, 1, 3] rfl
                    have hKc := hK.sub (tys' := [(cI, .int)]) [0] rfl
                    have hDc := hD.sub (ws' := [(h, .inr (13, mO r 0 (nI T.length) le lv pg pn pl (nI (sealL 3 (moL nm how t0 ln)).length))), (r 1, .inl (cI, 9400, .inl tp)), (r 51, .inl (cI, 8192, .inl wr)), (r 52, .inl (cI, 4200, .inl g311))]) [2, 0, 1, 3] (by decide) rfl
                    have hFc := va_free (wc := [(h, .inr (13, mO r 0 (nI T.length) le lv pg pn pl (nI (sealL 3 (moL nm how t0 ln)).length))), (r 1, .inl (cI, 9400, .inl tp)), (r 51, .inl (cI, 8192, .inl wr)), (r 52, .inl (cI, 4200, .inl g311))]) hD hS hA [2, 0, 1, 3] rfl
                    refine va_callv (va_runV (As := [.int (nI i9)]) (rest := []) ⟨hx, hb, hml, hown, hts⟩ (c_Mo_writePackets l D H.size cI h r 0 le lv pg pn pl (sealL 3 (moL nm how t0 ln)) g311 T tp (wf i9) i9 wr e311 (by omega) htp (by rw [hs4]; omega) (by omega) (hwf _ (by omega)) (hwb _ (by omega))) (z_cV hN wd_1461 wd_67 wd_1458 hd_Mo_writePackets rfl rfl ⟨Nat.le_of_ble_eq_true rfl, Nat.le_of_ble_eq_true rfl⟩ wd_1460 wd_57) (z_preVm (va_recv (ci := 13) (q0 := 2) hK hP rfl rfl) hPc hKc hN hDc) rfl rfl hl.1 rfl (lv_room (Nat.le_of_ble_eq_true rfl)) d_Mo_writeOrder_316 ⟨Nat.le_of_ble_eq_true rfl, Nat.le_of_ble_eq_true rfl⟩) hS (fun q _ h => hFc q h) hFc (fun g316 t H locs ht hvm e316 hB hz1 hk1 hS => ?_)
                    obtain ⟨hP1, hK1, hD1⟩ := hB
                    rw [ht] at hP1
                    obtain ⟨hP, hD⟩ := va_join (wr := []) (w1 := [(h, .inr (13, mO r 0 (nI (T ++ ppL i9 (wf i9) (sealL 3 (moL nm how t0 ln)).length 0 (sealL 3 (moL nm how t0 ln))).length) le lv pg pn pl (nI (sealL 3 (moL nm how t0 ln)).length))), (r 1, .inl (cI, 9400, .inl g316)), (r 51, .inl (cI, 8192, .inl (upd wr i9 (nI ((wf i9) + ((sealL 3 (moL nm how t0 ln)).length + 183) / 184))))), (r 52, .inl (cI, 4200, .inl g311))]) hP hD [2, 0, 1, 3] [] rfl rfl (by decide) (by decide) hk1 hFc hP1 hD1
                    clear hk1 hP1 hD1 hFc hPc hDc hz1
                    have hP : va_P D classes [(h, .inr (13, mO r 0 (nI (T ++ ppL i9 (wf i9) (sealL 3 (moL nm how t0 ln)).length 0 (sealL 3 (moL nm how t0 ln))).length) le lv pg pn pl (nI (sealL 3 (moL nm how t0 ln)).length))), (r 1, .inl (cI, 9400, .inl g316)), (r 51, .inl (cI, 8192, .inl (upd wr i9 (nI ((wf i9) + ((sealL 3 (moL nm how t0 ln)).length + 183) / 184))))), (r 52, .inl (cI, 4200, .inl g311))] H := hP
                    have hD : va_D A [(h, .inr (13, mO r 0 (nI (T ++ ppL i9 (wf i9) (sealL 3 (moL nm how t0 ln)).length 0 (sealL 3 (moL nm how t0 ln))).length) le lv pg pn pl (nI (sealL 3 (moL nm how t0 ln)).length))), (r 1, .inl (cI, 9400, .inl g316)), (r 51, .inl (cI, 8192, .inl (upd wr i9 (nI ((wf i9) + ((sealL 3 (moL nm how t0 ln)).length + 183) / 184))))), (r 52, .inl (cI, 4200, .inl g311))] := hD
                    refine lv_aload_n hx hb d_Mo_writeOrder_319 rfl (lv_at hl 1 rfl) ?_
                    refine va_get (D := D) (ci := 13) (v := .int (nI (T ++ ppL i9 (wf i9) (sealL 3 (moL nm how t0 ln)).length 0 (sealL 3 (moL nm how t0 ln))).length)) (C := R_Mo) (T := F_Mo) (N := 54) hx hb hts i_Mo hown hK hP 0 rfl rfl 2 (by decide) (hts _ wd_1090) (fun _ h9 => h9) rfl d_Mo_writeOrder_320 ?_
                    have hP9 := hP.sub (ws' := [(h, .inr (13, mO r 0 (nI (T ++ ppL i9 (wf i9) (sealL 3 (moL nm how t0 ln)).length 0 (sealL 3 (moL nm how t0 ln))).length) le lv pg pn pl (nI (sealL 3 (moL nm how t0 ln)).length))), (r 1, .inl (cI, 9400, .inl g316)), (r 51, .inl (cI, 8192, .inl (upd wr i9 (nI ((wf i9) + ((sealL 3 (moL nm how t0 ln)).length + 183) / 184))))), (r 52, .inl (cI, 4200, .inl g311))]) [0, 1, 2, 3] rfl
                    have hD9 := hD.sub (ws' := [(h, .inr (13, mO r 0 (nI (T ++ ppL i9 (wf i9) (sealL 3 (moL nm how t0 ln)).length 0 (sealL 3 (moL nm how t0 ln))).length) le lv pg pn pl (nI (sealL 3 (moL nm how t0 ln)).length))), (r 1, .inl (cI, 9400, .inl g316)), (r 51, .inl (cI, 8192, .inl (upd wr i9 (nI ((wf i9) + ((sealL 3 (moL nm how t0 ln)).length + 183) / 184))))), (r 52, .inl (cI, 4200, .inl g311))]) [0, 1, 2, 3] (by decide) rfl
                    have hK9 := hK.sub (tys' := [(cI, .int)]) [0] rfl
                    exact W.iret (v := (nI (T ++ ppL i9 (wf i9) (sealL 3 (moL nm how t0 ln)).length 0 (sealL 3 (moL nm how t0 ln))).length)) hx hb hr (fun t ht hW => ⟨⟨_, (0, nI (T ++ ppL i9 (wf i9) (sealL 3 (moL nm how t0 ln)).length 0 (sealL 3 (moL nm how t0 ln))).length, nI (sealL 3 (moL nm how t0 ln)).length, g316, upd wr i9 (nI (wf i9 + ((sealL 3 (moL nm how t0 ln)).length + 183) / 184)), g311), rfl, Or.inr ⟨hbad, i9, rfl, hi9, Or.inr ⟨h69, ⟨rfl, e316, rfl, rfl, rfl⟩⟩⟩, ⟨by rw [ht]; exact hP9, va_K.moved hW.alike hK9, hD9⟩⟩, hS.F ht⟩) hS.2.2 d_Mo_writeOrder_323
                  · refine lv_aload_n hx hb d_Mo_writeOrder_189 rfl (lv_at hl 1 rfl) ?_
                    refine lv_iload_n hx hb d_Mo_writeOrder_190 rfl (lv_at hl 4 rfl) ?_
                    refine lv_iconst (v := 1) hx hb d_Mo_writeOrder_191 (by decide) ?_
                    refine lv_ishr hx hb d_Mo_writeOrder_192 ?_
                    refine lv_iconst (v := 1) hx hb d_Mo_writeOrder_193 (by decide) ?_
                    refine lv_iand hx hb d_Mo_writeOrder_194 ?_
                    refine lv_bipush (v := 7) hx hb d_Mo_writeOrder_195 (by decide) ?_
                    refine lv_ishl hx hb d_Mo_writeOrder_197 ?_
                    refine z_topi (w := ((how >>> ((1 : Int32) &&& 31)) &&& 1) <<< ((7 : Int32) &&& 31)) rfl ?_
                    refine lv_bipush (v := 64) hx hb d_Mo_writeOrder_198 (by decide) ?_
                    refine lv_ior hx hb d_Mo_writeOrder_200 ?_
                    refine lv_iload_n hx hb d_Mo_writeOrder_201 rfl (lv_at hl 4 rfl) ?_
                    refine lv_iconst (v := 3) hx hb d_Mo_writeOrder_202 (by decide) ?_
                    refine lv_ishr hx hb d_Mo_writeOrder_203 ?_
                    refine lv_iconst (v := 1) hx hb d_Mo_writeOrder_204 (by decide) ?_
                    refine lv_iand hx hb d_Mo_writeOrder_205 ?_
                    refine lv_iconst (v := 5) hx hb d_Mo_writeOrder_206 (by decide) ?_
                    refine lv_ishl hx hb d_Mo_writeOrder_207 ?_
                    refine z_topi (w := ((how >>> ((3 : Int32) &&& 31)) &&& 1) <<< ((5 : Int32) &&& 31)) rfl ?_
                    refine lv_ior hx hb d_Mo_writeOrder_208 ?_
                    refine lv_iload hx hb d_Mo_writeOrder_209 (lv_at hl 0 rfl) ?_
                    suffices key211 : W p l e ({ frames := 2, cells := 0, slots := 0, locals := 47 }) s m ([.ref h, .int (nI i9), .int nm, .int how, .long t0, .long ln]).toArray below meth cd H locs 0 0 (MQ below (va_Qi (fun r0 (u : MWQ) => (((nI i9) < 0 ∨ 8191 < (nI i9) ∨ how < 0 ∨ 63 < how ∨ t0 < 0 ∨ 8589934592 ≤ t0 ∨ ln < 0) ∧ r0 = 0 ∧ u = (1, nI T.length, rs, tp, wr, ro)) ∨ (¬ (how < 0 ∨ 63 < how ∨ t0 < 0 ∨ 8589934592 ≤ t0 ∨ ln < 0) ∧ ∃ a9 : Nat, (nI i9) = nI a9 ∧ a9 ≤ 8191 ∧ ((¬ T.length + 188 ≤ 9400 ∧ r0 = -1 ∧ u = (0, nI T.length, rs, tp, wr, ro)) ∨ (T.length + 188 ≤ 9400 ∧ MW T (sealL 3 (moL nm how t0 ln)) a9 wf wr u r0)))) (fun (u : MWQ) t => zW D (A) [(h, .inr (13, mO r u.1 u.2.1 le lv pg pn pl u.2.2.1)), (r 1, .inl (cI, 9400, .inl u.2.2.2.1)), (r 51, .inl (cI, 8192, .inl u.2.2.2.2.1)), (r 52, .inl (cI, 4200, .inl u.2.2.2.2.2))] [(cI, .int)] t) (A)) ([.ref h, .int (nI i9), .int nm, .int how, .long t0, .long ln]).toArray s 0 0 (A)) (F0 m 220 ls [.int (if (how >>> ((2 : Int32) &&& 31)) &&& 1 = 1 then 16 else 0), .int (((((how >>> ((1 : Int32) &&& 31)) &&& 1) <<< ((7 : Int32) &&& 31)) ||| 64) ||| (((how >>> ((3 : Int32) &&& 31)) &&& 1) <<< ((5 : Int32) &&& 31))), .ref h]) by
                      refine lv_if_eq (tgt := 219) hx hb d_Mo_writeOrder_211 rfl (fun h211 => ?_) (fun h211 => ?_)
                      · refine lv_iconst (v := 0) hx hb d_Mo_writeOrder_219 (by decide) ?_
                        refine z_topi (w := (if (how >>> ((2 : Int32) &&& 31)) &&& 1 = 1 then 16 else 0)) ((if_neg (mo_0 h211)).symm) ?_
                        exact key211
                      · refine lv_bipush (v := 16) hx hb d_Mo_writeOrder_214 (by decide) ?_
                        refine lv_goto (tgt := 220) hx hb d_Mo_writeOrder_216 rfl ?_
                        refine z_topi (w := (if (how >>> ((2 : Int32) &&& 31)) &&& 1 = 1 then 16 else 0)) ((if_pos (mo_1 h211)).symm) ?_
                        exact key211
                    refine lv_ior hx hb d_Mo_writeOrder_220 ?_
                    refine lv_bipush (v := 15) hx hb d_Mo_writeOrder_221 (by decide) ?_
                    refine lv_ior hx hb d_Mo_writeOrder_223 ?_
                    refine z_topi (w := moF how) rfl ?_
                    refine lv_i2l (v := (moF how).toInt64) hx hb d_Mo_writeOrder_224 rfl ?_
                    refine lv_iconst (v := 1) hx hb d_Mo_writeOrder_225 (by decide) ?_
                    have hPc := hP.sub (ws' := [(h, .inr (13, mO r 0 (nI T.length) le lv pg pn pl (nI (((((((((([] : List Int32) ++ bsL 0 1) ++ bsL 252 1) ++ bsL 0 2) ++ bsL 0 1) ++ bsL (541165879296 ||| (ln >>> ((33 : Int32).toInt64 &&& 63))) 5) ++ bsL 4294967295 4) ++ bsL 5 1) ++ bsL (nm.toInt64 &&& 4294967295) 4) ++ bsL (if how - how / 2 * 2 = 1 then 255 else 127) 1).length))), (r 52, .inl (cI, 4200, .inl g180))]) [2, 3] rfl
                    have hKc := hK.sub (tys' := [(cI, .int)]) [0] rfl
                    have hDc := hD.sub (ws' := [(h, .inr (13, mO r 0 (nI T.length) le lv pg pn pl (nI (((((((((([] : List Int32) ++ bsL 0 1) ++ bsL 252 1) ++ bsL 0 2) ++ bsL 0 1) ++ bsL (541165879296 ||| (ln >>> ((33 : Int32).toInt64 &&& 63))) 5) ++ bsL 4294967295 4) ++ bsL 5 1) ++ bsL (nm.toInt64 &&& 4294967295) 4) ++ bsL (if how - how / 2 * 2 = 1 then 255 else 127) 1).length))), (r 52, .inl (cI, 4200, .inl g180))]) [2, 3] (by decide) rfl
                    have hFc := va_free (wc := [(h, .inr (13, mO r 0 (nI T.length) le lv pg pn pl (nI (((((((((([] : List Int32) ++ bsL 0 1) ++ bsL 252 1) ++ bsL 0 2) ++ bsL 0 1) ++ bsL (541165879296 ||| (ln >>> ((33 : Int32).toInt64 &&& 63))) 5) ++ bsL 4294967295 4) ++ bsL 5 1) ++ bsL (nm.toInt64 &&& 4294967295) 4) ++ bsL (if how - how / 2 * 2 = 1 then 255 else 127) 1).length))), (r 52, .inl (cI, 4200, .inl g180))]) hD hS hA [2, 3] rfl
                    refine va_callv (va_runV (As := [.long ((moF how).toInt64), .int (nI 1)]) (rest := []) ⟨hx, hb, hml, hown, hts⟩ (c_Mo_put l D H.size cI h r 0 (nI T.length) le lv pg pn pl (((((((((([] : List Int32) ++ bsL 0 1) ++ bsL 252 1) ++ bsL 0 2) ++ bsL 0 1) ++ bsL (541165879296 ||| (ln >>> ((33 : Int32).toInt64 &&& 63))) 5) ++ bsL 4294967295 4) ++ bsL 5 1) ++ bsL (nm.toInt64 &&& 4294967295) 4) ++ bsL (if how - how / 2 * 2 = 1 then 255 else 127) 1) g180 ((moF how).toInt64) 1 e180 (by (try simp only [List.length_append, bs_len, List.length_nil]); omega) (by omega) (by omega)) (z_cV hN wd_1451 wd_67 wd_1448 hd_Mo_put rfl rfl ⟨Nat.le_of_ble_eq_true rfl, Nat.le_of_ble_eq_true rfl⟩ wd_1450 wd_55) (z_preVm (va_recv (ci := 13) (q0 := 2) hK hP rfl rfl) hPc hKc hN hDc) rfl rfl hl.1 rfl (lv_room (Nat.le_of_ble_eq_true rfl)) d_Mo_writeOrder_226 ⟨Nat.le_of_ble_eq_true rfl, Nat.le_of_ble_eq_true rfl⟩) hS (fun q _ h => hFc q h) hFc (fun g226 t H locs ht hvm e226 hB hz1 hk1 hS => ?_)
                    obtain ⟨hP1, hK1, hD1⟩ := hB
                    rw [ht] at hP1
                    obtain ⟨hP, hD⟩ := va_join (wr := [(r 1, .inl (cI, 9400, .inl tp)), (r 51, .inl (cI, 8192, .inl wr))]) (w1 := [(h, .inr (13, mO r 0 (nI T.length) le lv pg pn pl (nI ((((((((((([] : List Int32) ++ bsL 0 1) ++ bsL 252 1) ++ bsL 0 2) ++ bsL 0 1) ++ bsL (541165879296 ||| (ln >>> ((33 : Int32).toInt64 &&& 63))) 5) ++ bsL 4294967295 4) ++ bsL 5 1) ++ bsL (nm.toInt64 &&& 4294967295) 4) ++ bsL (if how - how / 2 * 2 = 1 then 255 else 127) 1) ++ bsL ((moF how).toInt64) 1).length))), (r 52, .inl (cI, 4200, .inl g226))]) hP hD [2, 3] [0, 1] rfl rfl (by decide) (by decide) hk1 hFc hP1 hD1
                    clear hk1 hP1 hD1 hFc hPc hDc hz1
                    have hP : va_P D classes [(r 1, .inl (cI, 9400, .inl tp)), (r 51, .inl (cI, 8192, .inl wr)), (h, .inr (13, mO r 0 (nI T.length) le lv pg pn pl (nI ((((((((((([] : List Int32) ++ bsL 0 1) ++ bsL 252 1) ++ bsL 0 2) ++ bsL 0 1) ++ bsL (541165879296 ||| (ln >>> ((33 : Int32).toInt64 &&& 63))) 5) ++ bsL 4294967295 4) ++ bsL 5 1) ++ bsL (nm.toInt64 &&& 4294967295) 4) ++ bsL (if how - how / 2 * 2 = 1 then 255 else 127) 1) ++ bsL ((moF how).toInt64) 1).length))), (r 52, .inl (cI, 4200, .inl g226))] H := hP
                    have hD : va_D A [(r 1, .inl (cI, 9400, .inl tp)), (r 51, .inl (cI, 8192, .inl wr)), (h, .inr (13, mO r 0 (nI T.length) le lv pg pn pl (nI ((((((((((([] : List Int32) ++ bsL 0 1) ++ bsL 252 1) ++ bsL 0 2) ++ bsL 0 1) ++ bsL (541165879296 ||| (ln >>> ((33 : Int32).toInt64 &&& 63))) 5) ++ bsL 4294967295 4) ++ bsL 5 1) ++ bsL (nm.toInt64 &&& 4294967295) 4) ++ bsL (if how - how / 2 * 2 = 1 then 255 else 127) 1) ++ bsL ((moF how).toInt64) 1).length))), (r 52, .inl (cI, 4200, .inl g226))] := hD
                    refine lv_iload hx hb d_Mo_writeOrder_229 (lv_at hl 0 rfl) ?_
                    refine lv_if_ne (tgt := 254) hx hb d_Mo_writeOrder_231 rfl (fun h231 => ?_) (fun h231 => ?_)
                    · have h231 := mo_1 h231
                      refine lv_iload hx hb d_Mo_writeOrder_254 (lv_at hl 0 rfl) ?_
                      refine lv_if_ne (tgt := 267) hx hb d_Mo_writeOrder_256 rfl (fun h256 => ?_) (fun h9 => absurd h231 (mo_0 h9))
                      refine lv_iload_n hx hb d_Mo_writeOrder_267 rfl (lv_at hl 4 rfl) ?_
                      refine lv_iconst (v := 3) hx hb d_Mo_writeOrder_268 (by decide) ?_
                      refine lv_ishr hx hb d_Mo_writeOrder_269 ?_
                      refine lv_iconst (v := 1) hx hb d_Mo_writeOrder_270 (by decide) ?_
                      refine lv_iand hx hb d_Mo_writeOrder_271 ?_
                      refine lv_iconst (v := 1) hx hb d_Mo_writeOrder_272 (by decide) ?_
                      refine lv_icmp_ne (tgt := 301) hx hb d_Mo_writeOrder_273 rfl (fun h273 => ?_) (fun h273 => ?_)
                      · have h273 := h273
                        refine lv_aload_n hx hb d_Mo_writeOrder_301 rfl (lv_at hl 1 rfl) ?_
                        refine lv_ldc2 hx hb hown (hts _ wd_1414) d_Mo_writeOrder_302 ?_
                        refine lv_iconst (v := 4) hx hb d_Mo_writeOrder_305 (by decide) ?_
                        have hPc := hP.sub (ws' := [(h, .inr (13, mO r 0 (nI T.length) le lv pg pn pl (nI ((((((((((([] : List Int32) ++ bsL 0 1) ++ bsL 252 1) ++ bsL 0 2) ++ bsL 0 1) ++ bsL (541165879296 ||| (ln >>> ((33 : Int32).toInt64 &&& 63))) 5) ++ bsL 4294967295 4) ++ bsL 5 1) ++ bsL (nm.toInt64 &&& 4294967295) 4) ++ bsL (if how - how / 2 * 2 = 1 then 255 else 127) 1) ++ bsL ((moF how).toInt64) 1).length))), (r 52, .inl (cI, 4200, .inl g226))]) [2, 3] rfl
                        have hKc := hK.sub (tys' := [(cI, .int)]) [0] rfl
                        have hDc := hD.sub (ws' := [(h, .inr (13, mO r 0 (nI T.length) le lv pg pn pl (nI ((((((((((([] : List Int32) ++ bsL 0 1) ++ bsL 252 1) ++ bsL 0 2) ++ bsL 0 1) ++ bsL (541165879296 ||| (ln >>> ((33 : Int32).toInt64 &&& 63))) 5) ++ bsL 4294967295 4) ++ bsL 5 1) ++ bsL (nm.toInt64 &&& 4294967295) 4) ++ bsL (if how - how / 2 * 2 = 1 then 255 else 127) 1) ++ bsL ((moF how).toInt64) 1).length))), (r 52, .inl (cI, 4200, .inl g226))]) [2, 3] (by decide) rfl
                        have hFc := va_free (wc := [(h, .inr (13, mO r 0 (nI T.length) le lv pg pn pl (nI ((((((((((([] : List Int32) ++ bsL 0 1) ++ bsL 252 1) ++ bsL 0 2) ++ bsL 0 1) ++ bsL (541165879296 ||| (ln >>> ((33 : Int32).toInt64 &&& 63))) 5) ++ bsL 4294967295 4) ++ bsL 5 1) ++ bsL (nm.toInt64 &&& 4294967295) 4) ++ bsL (if how - how / 2 * 2 = 1 then 255 else 127) 1) ++ bsL ((moF how).toInt64) 1).length))), (r 52, .inl (cI, 4200, .inl g226))]) hD hS hA [2, 3] rfl
                        refine va_callv (va_runV (As := [.long 4294967295, .int (nI 4)]) (rest := []) ⟨hx, hb, hml, hown, hts⟩ (c_Mo_put l D H.size cI h r 0 (nI T.length) le lv pg pn pl ((((((((((([] : List Int32) ++ bsL 0 1) ++ bsL 252 1) ++ bsL 0 2) ++ bsL 0 1) ++ bsL (541165879296 ||| (ln >>> ((33 : Int32).toInt64 &&& 63))) 5) ++ bsL 4294967295 4) ++ bsL 5 1) ++ bsL (nm.toInt64 &&& 4294967295) 4) ++ bsL (if how - how / 2 * 2 = 1 then 255 else 127) 1) ++ bsL ((moF how).toInt64) 1) g226 4294967295 4 e226 (by (try simp only [List.length_append, bs_len, List.length_nil]); omega) (by omega) (by omega)) (z_cV hN wd_1451 wd_67 wd_1448 hd_Mo_put rfl rfl ⟨Nat.le_of_ble_eq_true rfl, Nat.le_of_ble_eq_true rfl⟩ wd_1450 wd_55) (z_preVm (va_recv (ci := 13) (q0 := 2) hK hP rfl rfl) hPc hKc hN hDc) rfl rfl hl.1 rfl (lv_room (Nat.le_of_ble_eq_true rfl)) d_Mo_writeOrder_306 ⟨Nat.le_of_ble_eq_true rfl, Nat.le_of_ble_eq_true rfl⟩) hS (fun q _ h => hFc q h) hFc (fun g306 t H locs ht hvm e306 hB hz1 hk1 hS => ?_)
                        obtain ⟨hP1, hK1, hD1⟩ := hB
                        rw [ht] at hP1
                        obtain ⟨hP, hD⟩ := va_join (wr := [(r 1, .inl (cI, 9400, .inl tp)), (r 51, .inl (cI, 8192, .inl wr))]) (w1 := [(h, .inr (13, mO r 0 (nI T.length) le lv pg pn pl (nI (((((((((((([] : List Int32) ++ bsL 0 1) ++ bsL 252 1) ++ bsL 0 2) ++ bsL 0 1) ++ bsL (541165879296 ||| (ln >>> ((33 : Int32).toInt64 &&& 63))) 5) ++ bsL 4294967295 4) ++ bsL 5 1) ++ bsL (nm.toInt64 &&& 4294967295) 4) ++ bsL (if how - how / 2 * 2 = 1 then 255 else 127) 1) ++ bsL ((moF how).toInt64) 1) ++ bsL 4294967295 4).length))), (r 52, .inl (cI, 4200, .inl g306))]) hP hD [2, 3] [0, 1] rfl rfl (by decide) (by decide) hk1 hFc hP1 hD1
                        clear hk1 hP1 hD1 hFc hPc hDc hz1
                        have hP : va_P D classes [(r 1, .inl (cI, 9400, .inl tp)), (r 51, .inl (cI, 8192, .inl wr)), (h, .inr (13, mO r 0 (nI T.length) le lv pg pn pl (nI (((((((((((([] : List Int32) ++ bsL 0 1) ++ bsL 252 1) ++ bsL 0 2) ++ bsL 0 1) ++ bsL (541165879296 ||| (ln >>> ((33 : Int32).toInt64 &&& 63))) 5) ++ bsL 4294967295 4) ++ bsL 5 1) ++ bsL (nm.toInt64 &&& 4294967295) 4) ++ bsL (if how - how / 2 * 2 = 1 then 255 else 127) 1) ++ bsL ((moF how).toInt64) 1) ++ bsL 4294967295 4).length))), (r 52, .inl (cI, 4200, .inl g306))] H := hP
                        have hD : va_D A [(r 1, .inl (cI, 9400, .inl tp)), (r 51, .inl (cI, 8192, .inl wr)), (h, .inr (13, mO r 0 (nI T.length) le lv pg pn pl (nI (((((((((((([] : List Int32) ++ bsL 0 1) ++ bsL 252 1) ++ bsL 0 2) ++ bsL 0 1) ++ bsL (541165879296 ||| (ln >>> ((33 : Int32).toInt64 &&& 63))) 5) ++ bsL 4294967295 4) ++ bsL 5 1) ++ bsL (nm.toInt64 &&& 4294967295) 4) ++ bsL (if how - how / 2 * 2 = 1 then 255 else 127) 1) ++ bsL ((moF how).toInt64) 1) ++ bsL 4294967295 4).length))), (r 52, .inl (cI, 4200, .inl g306))] := hD
                        have hle : ((((((((((([] : List Int32) ++ bsL 0 1) ++ bsL 252 1) ++ bsL 0 2) ++ bsL 0 1) ++ bsL (541165879296 ||| (ln >>> ((33 : Int32).toInt64 &&& 63))) 5) ++ bsL 4294967295 4) ++ bsL 5 1) ++ bsL (nm.toInt64 &&& 4294967295) 4) ++ bsL (if how - how / 2 * 2 = 1 then 255 else 127) 1) ++ bsL ((moF how).toInt64) 1) ++ bsL 4294967295 4 = moL nm how t0 ln := by unfold moL; first | (rw [if_neg h186]; rfl) | (rw [if_pos h186]; unfold moB moD; first | (rw [if_pos h231]; first | (rw [if_pos h273, List.append_nil]; rfl) | (rw [if_neg h273, List.append_nil, List.append_nil]; rfl)) | (rw [if_neg h231]; first | (rw [if_pos h237]; first | (rw [if_pos h273]; rfl) | (rw [if_neg h273, List.append_nil]; rfl)) | (rw [if_neg h237]; first | (rw [if_pos h273]; rfl) | (rw [if_neg h273, List.append_nil]; rfl))))
                        rw [hle] at hP hD e306
                        have hml2 := mo_len nm how t0 ln
                        refine lv_aload_n hx hb d_Mo_writeOrder_309 rfl (lv_at hl 1 rfl) ?_
                        refine lv_iconst (v := 3) hx hb d_Mo_writeOrder_310 (by decide) ?_
                        have hPc := hP.sub (ws' := [(h, .inr (13, mO r 0 (nI T.length) le lv pg pn pl (nI (moL nm how t0 ln).length))), (r 52, .inl (cI, 4200, .inl g306))]) [2, 3] rfl
                        have hKc := hK.sub (tys' := [(cI, .int)]) [0] rfl
                        have hDc := hD.sub (ws' := [(h, .inr (13, mO r 0 (nI T.length) le lv pg pn pl (nI (moL nm how t0 ln).length))), (r 52, .inl (cI, 4200, .inl g306))]) [2, 3] (by decide) rfl
                        have hFc := va_free (wc := [(h, .inr (13, mO r 0 (nI T.length) le lv pg pn pl (nI (moL nm how t0 ln).length))), (r 52, .inl (cI, 4200, .inl g306))]) hD hS hA [2, 3] rfl
                        refine va_callv (va_runV (As := [.int 3]) (rest := []) ⟨hx, hb, hml, hown, hts⟩ (c_Mo_sealRow l D H.size cI h r 0 (nI T.length) le lv pg pn pl (moL nm how t0 ln) g306 3 e306 hml2.1 hml2.2) (z_cV hN wd_1457 wd_67 wd_1454 hd_Mo_sealRow rfl rfl ⟨Nat.le_of_ble_eq_true rfl, Nat.le_of_ble_eq_true rfl⟩ wd_1456 wd_56) (z_preVm (va_recv (ci := 13) (q0 := 2) hK hP rfl rfl) hPc hKc hN hDc) rfl rfl hl.1 rfl (lv_room (Nat.le_of_ble_eq_true rfl)) d_Mo_writeOrder_311 ⟨Nat.le_of_ble_eq_true rfl, Nat.le_of_ble_eq_true rfl⟩) hS (fun q _ h => hFc q h) hFc (fun g311 t H locs ht hvm e311 hB hz1 hk1 hS => ?_)
                        obtain ⟨hP1, hK1, hD1⟩ := hB
                        rw [ht] at hP1
                        obtain ⟨hP, hD⟩ := va_join (wr := [(r 1, .inl (cI, 9400, .inl tp)), (r 51, .inl (cI, 8192, .inl wr))]) (w1 := [(h, .inr (13, mO r 0 (nI T.length) le lv pg pn pl (nI 184))), (r 52, .inl (cI, 4200, .inl g311))]) hP hD [2, 3] [0, 1] rfl rfl (by decide) (by decide) hk1 hFc hP1 hD1
                        clear hk1 hP1 hD1 hFc hPc hDc hz1
                        have hP : va_P D classes [(r 1, .inl (cI, 9400, .inl tp)), (r 51, .inl (cI, 8192, .inl wr)), (h, .inr (13, mO r 0 (nI T.length) le lv pg pn pl (nI 184))), (r 52, .inl (cI, 4200, .inl g311))] H := hP
                        have hD : va_D A [(r 1, .inl (cI, 9400, .inl tp)), (r 51, .inl (cI, 8192, .inl wr)), (h, .inr (13, mO r 0 (nI T.length) le lv pg pn pl (nI 184))), (r 52, .inl (cI, 4200, .inl g311))] := hD
                        have hs4 : (sealL 3 (moL nm how t0 ln)).length = 184 := sealL_len hml2.2
                        have hs5 : nI 184 = nI (sealL 3 (moL nm how t0 ln)).length := by rw [hs4]
                        rw [hs5] at hP hD
                        refine lv_aload_n hx hb d_Mo_writeOrder_314 rfl (lv_at hl 1 rfl) ?_
                        refine lv_iload_n hx hb d_Mo_writeOrder_315 rfl (lv_at hl 2 rfl) ?_
                        have hPc := hP.sub (ws' := [(h, .inr (13, mO r 0 (nI T.length) le lv pg pn pl (nI (sealL 3 (moL nm how t0 ln)).length))), (r 1, .inl (cI, 9400, .inl tp)), (r 51, .inl (cI, 8192, .inl wr)), (r 52, .inl (cI, 4200, .inl g311))]) [2, 0, 1, 3] rfl
                        have hKc := hK.sub (tys' := [(cI, .int)]) [0] rfl
                        have hDc := hD.sub (ws' := [(h, .inr (13, mO r 0 (nI T.length) le lv pg pn pl (nI (sealL 3 (moL nm how t0 ln)).length))), (r 1, .inl (cI, 9400, .inl tp)), (r 51, .inl (cI, 8192, .inl wr)), (r 52, .inl (cI, 4200, .inl g311))]) [2, 0, 1, 3] (by decide) rfl
                        have hFc := va_free (wc := [(h, .inr (13, mO r 0 (nI T.length) le lv pg pn pl (nI (sealL 3 (moL nm how t0 ln)).length))), (r 1, .inl (cI, 9400, .inl tp)), (r 51, .inl (cI, 8192, .inl wr)), (r 52, .inl (cI, 4200, .inl g311))]) hD hS hA [2, 0, 1, 3] rfl
                        refine va_callv (va_runV (As := [.int (nI i9)]) (rest := []) ⟨hx, hb, hml, hown, hts⟩ (c_Mo_writePackets l D H.size cI h r 0 le lv pg pn pl (sealL 3 (moL nm how t0 ln)) g311 T tp (wf i9) i9 wr e311 (by omega) htp (by rw [hs4]; omega) (by omega) (hwf _ (by omega)) (hwb _ (by omega))) (z_cV hN wd_1461 wd_67 wd_1458 hd_Mo_writePackets rfl rfl ⟨Nat.le_of_ble_eq_true rfl, Nat.le_of_ble_eq_true rfl⟩ wd_1460 wd_57) (z_preVm (va_recv (ci := 13) (q0 := 2) hK hP rfl rfl) hPc hKc hN hDc) rfl rfl hl.1 rfl (lv_room (Nat.le_of_ble_eq_true rfl)) d_Mo_writeOrder_316 ⟨Nat.le_of_ble_eq_true rfl, Nat.le_of_ble_eq_true rfl⟩) hS (fun q _ h => hFc q h) hFc (fun g316 t H locs ht hvm e316 hB hz1 hk1 hS => ?_)
                        obtain ⟨hP1, hK1, hD1⟩ := hB
                        rw [ht] at hP1
                        obtain ⟨hP, hD⟩ := va_join (wr := []) (w1 := [(h, .inr (13, mO r 0 (nI (T ++ ppL i9 (wf i9) (sealL 3 (moL nm how t0 ln)).length 0 (sealL 3 (moL nm how t0 ln))).length) le lv pg pn pl (nI (sealL 3 (moL nm how t0 ln)).length))), (r 1, .inl (cI, 9400, .inl g316)), (r 51, .inl (cI, 8192, .inl (upd wr i9 (nI ((wf i9) + ((sealL 3 (moL nm how t0 ln)).length + 183) / 184))))), (r 52, .inl (cI, 4200, .inl g311))]) hP hD [2, 0, 1, 3] [] rfl rfl (by decide) (by decide) hk1 hFc hP1 hD1
                        clear hk1 hP1 hD1 hFc hPc hDc hz1
                        have hP : va_P D classes [(h, .inr (13, mO r 0 (nI (T ++ ppL i9 (wf i9) (sealL 3 (moL nm how t0 ln)).length 0 (sealL 3 (moL nm how t0 ln))).length) le lv pg pn pl (nI (sealL 3 (moL nm how t0 ln)).length))), (r 1, .inl (cI, 9400, .inl g316)), (r 51, .inl (cI, 8192, .inl (upd wr i9 (nI ((wf i9) + ((sealL 3 (moL nm how t0 ln)).length + 183) / 184))))), (r 52, .inl (cI, 4200, .inl g311))] H := hP
                        have hD : va_D A [(h, .inr (13, mO r 0 (nI (T ++ ppL i9 (wf i9) (sealL 3 (moL nm how t0 ln)).length 0 (sealL 3 (moL nm how t0 ln))).length) le lv pg pn pl (nI (sealL 3 (moL nm how t0 ln)).length))), (r 1, .inl (cI, 9400, .inl g316)), (r 51, .inl (cI, 8192, .inl (upd wr i9 (nI ((wf i9) + ((sealL 3 (moL nm how t0 ln)).length + 183) / 184))))), (r 52, .inl (cI, 4200, .inl g311))] := hD
                        refine lv_aload_n hx hb d_Mo_writeOrder_319 rfl (lv_at hl 1 rfl) ?_
                        refine va_get (D := D) (ci := 13) (v := .int (nI (T ++ ppL i9 (wf i9) (sealL 3 (moL nm how t0 ln)).length 0 (sealL 3 (moL nm how t0 ln))).length)) (C := R_Mo) (T := F_Mo) (N := 54) hx hb hts i_Mo hown hK hP 0 rfl rfl 2 (by decide) (hts _ wd_1090) (fun _ h9 => h9) rfl d_Mo_writeOrder_320 ?_
                        have hP9 := hP.sub (ws' := [(h, .inr (13, mO r 0 (nI (T ++ ppL i9 (wf i9) (sealL 3 (moL nm how t0 ln)).length 0 (sealL 3 (moL nm how t0 ln))).length) le lv pg pn pl (nI (sealL 3 (moL nm how t0 ln)).length))), (r 1, .inl (cI, 9400, .inl g316)), (r 51, .inl (cI, 8192, .inl (upd wr i9 (nI ((wf i9) + ((sealL 3 (moL nm how t0 ln)).length + 183) / 184))))), (r 52, .inl (cI, 4200, .inl g311))]) [0, 1, 2, 3] rfl
                        have hD9 := hD.sub (ws' := [(h, .inr (13, mO r 0 (nI (T ++ ppL i9 (wf i9) (sealL 3 (moL nm how t0 ln)).length 0 (sealL 3 (moL nm how t0 ln))).length) le lv pg pn pl (nI (sealL 3 (moL nm how t0 ln)).length))), (r 1, .inl (cI, 9400, .inl g316)), (r 51, .inl (cI, 8192, .inl (upd wr i9 (nI ((wf i9) + ((sealL 3 (moL nm how t0 ln)).length + 183) / 184))))), (r 52, .inl (cI, 4200, .inl g311))]) [0, 1, 2, 3] (by decide) rfl
                        have hK9 := hK.sub (tys' := [(cI, .int)]) [0] rfl
                        exact W.iret (v := (nI (T ++ ppL i9 (wf i9) (sealL 3 (moL nm how t0 ln)).length 0 (sealL 3 (moL nm how t0 ln))).length)) hx hb hr (fun t ht hW => ⟨⟨_, (0, nI (T ++ ppL i9 (wf i9) (sealL 3 (moL nm how t0 ln)).length 0 (sealL 3 (moL nm how t0 ln))).length, nI (sealL 3 (moL nm how t0 ln)).length, g316, upd wr i9 (nI (wf i9 + ((sealL 3 (moL nm how t0 ln)).length + 183) / 184)), g311), rfl, Or.inr ⟨hbad, i9, rfl, hi9, Or.inr ⟨h69, ⟨rfl, e316, rfl, rfl, rfl⟩⟩⟩, ⟨by rw [ht]; exact hP9, va_K.moved hW.alike hK9, hD9⟩⟩, hS.F ht⟩) hS.2.2 d_Mo_writeOrder_323
                      · refine lv_aload_n hx hb d_Mo_writeOrder_276 rfl (lv_at hl 1 rfl) ?_
                        refine lv_iload_n hx hb d_Mo_writeOrder_277 rfl (lv_at hl 4 rfl) ?_
                        refine lv_iconst (v := 4) hx hb d_Mo_writeOrder_278 (by decide) ?_
                        refine lv_ishr hx hb d_Mo_writeOrder_279 ?_
                        refine lv_i2l (v := (how >>> (4 &&& 31)).toInt64) hx hb d_Mo_writeOrder_280 rfl ?_
                        refine lv_lconst (v := 1) hx hb d_Mo_writeOrder_281 (by decide) ?_
                        refine lv_land hx hb d_Mo_writeOrder_282 ?_
                        refine lv_bipush (v := 39) hx hb d_Mo_writeOrder_283 (by decide) ?_
                        refine lv_lshl (v := (((how >>> (4 &&& 31)).toInt64) &&& 1) <<< ((39 : Int32).toInt64 &&& 63)) hx hb d_Mo_writeOrder_285 rfl ?_
                        refine lv_ldc2 hx hb hown (hts _ wd_1478) d_Mo_writeOrder_286 ?_
                        refine lv_lor hx hb d_Mo_writeOrder_289 ?_
                        refine lv_lload hx hb d_Mo_writeOrder_290 (lv_at hl 6 rfl) ?_
                        refine lv_ldc2 hx hb hown (hts _ wd_1482) d_Mo_writeOrder_292 ?_
                        refine lv_land hx hb d_Mo_writeOrder_295 ?_
                        refine lv_lor hx hb d_Mo_writeOrder_296 ?_
                        refine z_topl (w := moV how ln) rfl ?_
                        refine lv_iconst (v := 5) hx hb d_Mo_writeOrder_297 (by decide) ?_
                        have hPc := hP.sub (ws' := [(h, .inr (13, mO r 0 (nI T.length) le lv pg pn pl (nI ((((((((((([] : List Int32) ++ bsL 0 1) ++ bsL 252 1) ++ bsL 0 2) ++ bsL 0 1) ++ bsL (541165879296 ||| (ln >>> ((33 : Int32).toInt64 &&& 63))) 5) ++ bsL 4294967295 4) ++ bsL 5 1) ++ bsL (nm.toInt64 &&& 4294967295) 4) ++ bsL (if how - how / 2 * 2 = 1 then 255 else 127) 1) ++ bsL ((moF how).toInt64) 1).length))), (r 52, .inl (cI, 4200, .inl g226))]) [2, 3] rfl
                        have hKc := hK.sub (tys' := [(cI, .int)]) [0] rfl
                        have hDc := hD.sub (ws' := [(h, .inr (13, mO r 0 (nI T.length) le lv pg pn pl (nI ((((((((((([] : List Int32) ++ bsL 0 1) ++ bsL 252 1) ++ bsL 0 2) ++ bsL 0 1) ++ bsL (541165879296 ||| (ln >>> ((33 : Int32).toInt64 &&& 63))) 5) ++ bsL 4294967295 4) ++ bsL 5 1) ++ bsL (nm.toInt64 &&& 4294967295) 4) ++ bsL (if how - how / 2 * 2 = 1 then 255 else 127) 1) ++ bsL ((moF how).toInt64) 1).length))), (r 52, .inl (cI, 4200, .inl g226))]) [2, 3] (by decide) rfl
                        have hFc := va_free (wc := [(h, .inr (13, mO r 0 (nI T.length) le lv pg pn pl (nI ((((((((((([] : List Int32) ++ bsL 0 1) ++ bsL 252 1) ++ bsL 0 2) ++ bsL 0 1) ++ bsL (541165879296 ||| (ln >>> ((33 : Int32).toInt64 &&& 63))) 5) ++ bsL 4294967295 4) ++ bsL 5 1) ++ bsL (nm.toInt64 &&& 4294967295) 4) ++ bsL (if how - how / 2 * 2 = 1 then 255 else 127) 1) ++ bsL ((moF how).toInt64) 1).length))), (r 52, .inl (cI, 4200, .inl g226))]) hD hS hA [2, 3] rfl
                        refine va_callv (va_runV (As := [.long (moV how ln), .int (nI 5)]) (rest := []) ⟨hx, hb, hml, hown, hts⟩ (c_Mo_put l D H.size cI h r 0 (nI T.length) le lv pg pn pl ((((((((((([] : List Int32) ++ bsL 0 1) ++ bsL 252 1) ++ bsL 0 2) ++ bsL 0 1) ++ bsL (541165879296 ||| (ln >>> ((33 : Int32).toInt64 &&& 63))) 5) ++ bsL 4294967295 4) ++ bsL 5 1) ++ bsL (nm.toInt64 &&& 4294967295) 4) ++ bsL (if how - how / 2 * 2 = 1 then 255 else 127) 1) ++ bsL ((moF how).toInt64) 1) g226 (moV how ln) 5 e226 (by (try simp only [List.length_append, bs_len, List.length_nil]); omega) (by omega) (by omega)) (z_cV hN wd_1451 wd_67 wd_1448 hd_Mo_put rfl rfl ⟨Nat.le_of_ble_eq_true rfl, Nat.le_of_ble_eq_true rfl⟩ wd_1450 wd_55) (z_preVm (va_recv (ci := 13) (q0 := 2) hK hP rfl rfl) hPc hKc hN hDc) rfl rfl hl.1 rfl (lv_room (Nat.le_of_ble_eq_true rfl)) d_Mo_writeOrder_298 ⟨Nat.le_of_ble_eq_true rfl, Nat.le_of_ble_eq_true rfl⟩) hS (fun q _ h => hFc q h) hFc (fun g298 t H locs ht hvm e298 hB hz1 hk1 hS => ?_)
                        obtain ⟨hP1, hK1, hD1⟩ := hB
                        rw [ht] at hP1
                        obtain ⟨hP, hD⟩ := va_join (wr := [(r 1, .inl (cI, 9400, .inl tp)), (r 51, .inl (cI, 8192, .inl wr))]) (w1 := [(h, .inr (13, mO r 0 (nI T.length) le lv pg pn pl (nI (((((((((((([] : List Int32) ++ bsL 0 1) ++ bsL 252 1) ++ bsL 0 2) ++ bsL 0 1) ++ bsL (541165879296 ||| (ln >>> ((33 : Int32).toInt64 &&& 63))) 5) ++ bsL 4294967295 4) ++ bsL 5 1) ++ bsL (nm.toInt64 &&& 4294967295) 4) ++ bsL (if how - how / 2 * 2 = 1 then 255 else 127) 1) ++ bsL ((moF how).toInt64) 1) ++ bsL (moV how ln) 5).length))), (r 52, .inl (cI, 4200, .inl g298))]) hP hD [2, 3] [0, 1] rfl rfl (by decide) (by decide) hk1 hFc hP1 hD1
                        clear hk1 hP1 hD1 hFc hPc hDc hz1
                        have hP : va_P D classes [(r 1, .inl (cI, 9400, .inl tp)), (r 51, .inl (cI, 8192, .inl wr)), (h, .inr (13, mO r 0 (nI T.length) le lv pg pn pl (nI (((((((((((([] : List Int32) ++ bsL 0 1) ++ bsL 252 1) ++ bsL 0 2) ++ bsL 0 1) ++ bsL (541165879296 ||| (ln >>> ((33 : Int32).toInt64 &&& 63))) 5) ++ bsL 4294967295 4) ++ bsL 5 1) ++ bsL (nm.toInt64 &&& 4294967295) 4) ++ bsL (if how - how / 2 * 2 = 1 then 255 else 127) 1) ++ bsL ((moF how).toInt64) 1) ++ bsL (moV how ln) 5).length))), (r 52, .inl (cI, 4200, .inl g298))] H := hP
                        have hD : va_D A [(r 1, .inl (cI, 9400, .inl tp)), (r 51, .inl (cI, 8192, .inl wr)), (h, .inr (13, mO r 0 (nI T.length) le lv pg pn pl (nI (((((((((((([] : List Int32) ++ bsL 0 1) ++ bsL 252 1) ++ bsL 0 2) ++ bsL 0 1) ++ bsL (541165879296 ||| (ln >>> ((33 : Int32).toInt64 &&& 63))) 5) ++ bsL 4294967295 4) ++ bsL 5 1) ++ bsL (nm.toInt64 &&& 4294967295) 4) ++ bsL (if how - how / 2 * 2 = 1 then 255 else 127) 1) ++ bsL ((moF how).toInt64) 1) ++ bsL (moV how ln) 5).length))), (r 52, .inl (cI, 4200, .inl g298))] := hD
                        refine lv_aload_n hx hb d_Mo_writeOrder_301 rfl (lv_at hl 1 rfl) ?_
                        refine lv_ldc2 hx hb hown (hts _ wd_1414) d_Mo_writeOrder_302 ?_
                        refine lv_iconst (v := 4) hx hb d_Mo_writeOrder_305 (by decide) ?_
                        have hPc := hP.sub (ws' := [(h, .inr (13, mO r 0 (nI T.length) le lv pg pn pl (nI (((((((((((([] : List Int32) ++ bsL 0 1) ++ bsL 252 1) ++ bsL 0 2) ++ bsL 0 1) ++ bsL (541165879296 ||| (ln >>> ((33 : Int32).toInt64 &&& 63))) 5) ++ bsL 4294967295 4) ++ bsL 5 1) ++ bsL (nm.toInt64 &&& 4294967295) 4) ++ bsL (if how - how / 2 * 2 = 1 then 255 else 127) 1) ++ bsL ((moF how).toInt64) 1) ++ bsL (moV how ln) 5).length))), (r 52, .inl (cI, 4200, .inl g298))]) [2, 3] rfl
                        have hKc := hK.sub (tys' := [(cI, .int)]) [0] rfl
                        have hDc := hD.sub (ws' := [(h, .inr (13, mO r 0 (nI T.length) le lv pg pn pl (nI (((((((((((([] : List Int32) ++ bsL 0 1) ++ bsL 252 1) ++ bsL 0 2) ++ bsL 0 1) ++ bsL (541165879296 ||| (ln >>> ((33 : Int32).toInt64 &&& 63))) 5) ++ bsL 4294967295 4) ++ bsL 5 1) ++ bsL (nm.toInt64 &&& 4294967295) 4) ++ bsL (if how - how / 2 * 2 = 1 then 255 else 127) 1) ++ bsL ((moF how).toInt64) 1) ++ bsL (moV how ln) 5).length))), (r 52, .inl (cI, 4200, .inl g298))]) [2, 3] (by decide) rfl
                        have hFc := va_free (wc := [(h, .inr (13, mO r 0 (nI T.length) le lv pg pn pl (nI (((((((((((([] : List Int32) ++ bsL 0 1) ++ bsL 252 1) ++ bsL 0 2) ++ bsL 0 1) ++ bsL (541165879296 ||| (ln >>> ((33 : Int32).toInt64 &&& 63))) 5) ++ bsL 4294967295 4) ++ bsL 5 1) ++ bsL (nm.toInt64 &&& 4294967295) 4) ++ bsL (if how - how / 2 * 2 = 1 then 255 else 127) 1) ++ bsL ((moF how).toInt64) 1) ++ bsL (moV how ln) 5).length))), (r 52, .inl (cI, 4200, .inl g298))]) hD hS hA [2, 3] rfl
                        refine va_callv (va_runV (As := [.long 4294967295, .int (nI 4)]) (rest := []) ⟨hx, hb, hml, hown, hts⟩ (c_Mo_put l D H.size cI h r 0 (nI T.length) le lv pg pn pl (((((((((((([] : List Int32) ++ bsL 0 1) ++ bsL 252 1) ++ bsL 0 2) ++ bsL 0 1) ++ bsL (541165879296 ||| (ln >>> ((33 : Int32).toInt64 &&& 63))) 5) ++ bsL 4294967295 4) ++ bsL 5 1) ++ bsL (nm.toInt64 &&& 4294967295) 4) ++ bsL (if how - how / 2 * 2 = 1 then 255 else 127) 1) ++ bsL ((moF how).toInt64) 1) ++ bsL (moV how ln) 5) g298 4294967295 4 e298 (by (try simp only [List.length_append, bs_len, List.length_nil]); omega) (by omega) (by omega)) (z_cV hN wd_1451 wd_67 wd_1448 hd_Mo_put rfl rfl ⟨Nat.le_of_ble_eq_true rfl, Nat.le_of_ble_eq_true rfl⟩ wd_1450 wd_55) (z_preVm (va_recv (ci := 13) (q0 := 2) hK hP rfl rfl) hPc hKc hN hDc) rfl rfl hl.1 rfl (lv_room (Nat.le_of_ble_eq_true rfl)) d_Mo_writeOrder_306 ⟨Nat.le_of_ble_eq_true rfl, Nat.le_of_ble_eq_true rfl⟩) hS (fun q _ h => hFc q h) hFc (fun g306 t H locs ht hvm e306 hB hz1 hk1 hS => ?_)
                        obtain ⟨hP1, hK1, hD1⟩ := hB
                        rw [ht] at hP1
                        obtain ⟨hP, hD⟩ := va_join (wr := [(r 1, .inl (cI, 9400, .inl tp)), (r 51, .inl (cI, 8192, .inl wr))]) (w1 := [(h, .inr (13, mO r 0 (nI T.length) le lv pg pn pl (nI ((((((((((((([] : List Int32) ++ bsL 0 1) ++ bsL 252 1) ++ bsL 0 2) ++ bsL 0 1) ++ bsL (541165879296 ||| (ln >>> ((33 : Int32).toInt64 &&& 63))) 5) ++ bsL 4294967295 4) ++ bsL 5 1) ++ bsL (nm.toInt64 &&& 4294967295) 4) ++ bsL (if how - how / 2 * 2 = 1 then 255 else 127) 1) ++ bsL ((moF how).toInt64) 1) ++ bsL (moV how ln) 5) ++ bsL 4294967295 4).length))), (r 52, .inl (cI, 4200, .inl g306))]) hP hD [2, 3] [0, 1] rfl rfl (by decide) (by decide) hk1 hFc hP1 hD1
                        clear hk1 hP1 hD1 hFc hPc hDc hz1
                        have hP : va_P D classes [(r 1, .inl (cI, 9400, .inl tp)), (r 51, .inl (cI, 8192, .inl wr)), (h, .inr (13, mO r 0 (nI T.length) le lv pg pn pl (nI ((((((((((((([] : List Int32) ++ bsL 0 1) ++ bsL 252 1) ++ bsL 0 2) ++ bsL 0 1) ++ bsL (541165879296 ||| (ln >>> ((33 : Int32).toInt64 &&& 63))) 5) ++ bsL 4294967295 4) ++ bsL 5 1) ++ bsL (nm.toInt64 &&& 4294967295) 4) ++ bsL (if how - how / 2 * 2 = 1 then 255 else 127) 1) ++ bsL ((moF how).toInt64) 1) ++ bsL (moV how ln) 5) ++ bsL 4294967295 4).length))), (r 52, .inl (cI, 4200, .inl g306))] H := hP
                        have hD : va_D A [(r 1, .inl (cI, 9400, .inl tp)), (r 51, .inl (cI, 8192, .inl wr)), (h, .inr (13, mO r 0 (nI T.length) le lv pg pn pl (nI ((((((((((((([] : List Int32) ++ bsL 0 1) ++ bsL 252 1) ++ bsL 0 2) ++ bsL 0 1) ++ bsL (541165879296 ||| (ln >>> ((33 : Int32).toInt64 &&& 63))) 5) ++ bsL 4294967295 4) ++ bsL 5 1) ++ bsL (nm.toInt64 &&& 4294967295) 4) ++ bsL (if how - how / 2 * 2 = 1 then 255 else 127) 1) ++ bsL ((moF how).toInt64) 1) ++ bsL (moV how ln) 5) ++ bsL 4294967295 4).length))), (r 52, .inl (cI, 4200, .inl g306))] := hD
                        have hle : (((((((((((([] : List Int32) ++ bsL 0 1) ++ bsL 252 1) ++ bsL 0 2) ++ bsL 0 1) ++ bsL (541165879296 ||| (ln >>> ((33 : Int32).toInt64 &&& 63))) 5) ++ bsL 4294967295 4) ++ bsL 5 1) ++ bsL (nm.toInt64 &&& 4294967295) 4) ++ bsL (if how - how / 2 * 2 = 1 then 255 else 127) 1) ++ bsL ((moF how).toInt64) 1) ++ bsL (moV how ln) 5) ++ bsL 4294967295 4 = moL nm how t0 ln := by unfold moL; first | (rw [if_neg h186]; rfl) | (rw [if_pos h186]; unfold moB moD; first | (rw [if_pos h231]; first | (rw [if_pos h273, List.append_nil]; rfl) | (rw [if_neg h273, List.append_nil, List.append_nil]; rfl)) | (rw [if_neg h231]; first | (rw [if_pos h237]; first | (rw [if_pos h273]; rfl) | (rw [if_neg h273, List.append_nil]; rfl)) | (rw [if_neg h237]; first | (rw [if_pos h273]; rfl) | (rw [if_neg h273, List.append_nil]; rfl))))
                        rw [hle] at hP hD e306
                        have hml2 := mo_len nm how t0 ln
                        refine lv_aload_n hx hb d_Mo_writeOrder_309 rfl (lv_at hl 1 rfl) ?_
                        refine lv_iconst (v := 3) hx hb d_Mo_writeOrder_310 (by decide) ?_
                        have hPc := hP.sub (ws' := [(h, .inr (13, mO r 0 (nI T.length) le lv pg pn pl (nI (moL nm how t0 ln).length))), (r 52, .inl (cI, 4200, .inl g306))]) [2, 3] rfl
                        have hKc := hK.sub (tys' := [(cI, .int)]) [0] rfl
                        have hDc := hD.sub (ws' := [(h, .inr (13, mO r 0 (nI T.length) le lv pg pn pl (nI (moL nm how t0 ln).length))), (r 52, .inl (cI, 4200, .inl g306))]) [2, 3] (by decide) rfl
                        have hFc := va_free (wc := [(h, .inr (13, mO r 0 (nI T.length) le lv pg pn pl (nI (moL nm how t0 ln).length))), (r 52, .inl (cI, 4200, .inl g306))]) hD hS hA [2, 3] rfl
                        refine va_callv (va_runV (As := [.int 3]) (rest := []) ⟨hx, hb, hml, hown, hts⟩ (c_Mo_sealRow l D H.size cI h r 0 (nI T.length) le lv pg pn pl (moL nm how t0 ln) g306 3 e306 hml2.1 hml2.2) (z_cV hN wd_1457 wd_67 wd_1454 hd_Mo_sealRow rfl rfl ⟨Nat.le_of_ble_eq_true rfl, Nat.le_of_ble_eq_true rfl⟩ wd_1456 wd_56) (z_preVm (va_recv (ci := 13) (q0 := 2) hK hP rfl rfl) hPc hKc hN hDc) rfl rfl hl.1 rfl (lv_room (Nat.le_of_ble_eq_true rfl)) d_Mo_writeOrder_311 ⟨Nat.le_of_ble_eq_true rfl, Nat.le_of_ble_eq_true rfl⟩) hS (fun q _ h => hFc q h) hFc (fun g311 t H locs ht hvm e311 hB hz1 hk1 hS => ?_)
                        obtain ⟨hP1, hK1, hD1⟩ := hB
                        rw [ht] at hP1
                        obtain ⟨hP, hD⟩ := va_join (wr := [(r 1, .inl (cI, 9400, .inl tp)), (r 51, .inl (cI, 8192, .inl wr))]) (w1 := [(h, .inr (13, mO r 0 (nI T.length) le lv pg pn pl (nI 184))), (r 52, .inl (cI, 4200, .inl g311))]) hP hD [2, 3] [0, 1] rfl rfl (by decide) (by decide) hk1 hFc hP1 hD1
                        clear hk1 hP1 hD1 hFc hPc hDc hz1
                        have hP : va_P D classes [(r 1, .inl (cI, 9400, .inl tp)), (r 51, .inl (cI, 8192, .inl wr)), (h, .inr (13, mO r 0 (nI T.length) le lv pg pn pl (nI 184))), (r 52, .inl (cI, 4200, .inl g311))] H := hP
                        have hD : va_D A [(r 1, .inl (cI, 9400, .inl tp)), (r 51, .inl (cI, 8192, .inl wr)), (h, .inr (13, mO r 0 (nI T.length) le lv pg pn pl (nI 184))), (r 52, .inl (cI, 4200, .inl g311))] := hD
                        have hs4 : (sealL 3 (moL nm how t0 ln)).length = 184 := sealL_len hml2.2
                        have hs5 : nI 184 = nI (sealL 3 (moL nm how t0 ln)).length := by rw [hs4]
                        rw [hs5] at hP hD
                        refine lv_aload_n hx hb d_Mo_writeOrder_314 rfl (lv_at hl 1 rfl) ?_
                        refine lv_iload_n hx hb d_Mo_writeOrder_315 rfl (lv_at hl 2 rfl) ?_
                        have hPc := hP.sub (ws' := [(h, .inr (13, mO r 0 (nI T.length) le lv pg pn pl (nI (sealL 3 (moL nm how t0 ln)).length))), (r 1, .inl (cI, 9400, .inl tp)), (r 51, .inl (cI, 8192, .inl wr)), (r 52, .inl (cI, 4200, .inl g311))]) [2, 0, 1, 3] rfl
                        have hKc := hK.sub (tys' := [(cI, .int)]) [0] rfl
                        have hDc := hD.sub (ws' := [(h, .inr (13, mO r 0 (nI T.length) le lv pg pn pl (nI (sealL 3 (moL nm how t0 ln)).length))), (r 1, .inl (cI, 9400, .inl tp)), (r 51, .inl (cI, 8192, .inl wr)), (r 52, .inl (cI, 4200, .inl g311))]) [2, 0, 1, 3] (by decide) rfl
                        have hFc := va_free (wc := [(h, .inr (13, mO r 0 (nI T.length) le lv pg pn pl (nI (sealL 3 (moL nm how t0 ln)).length))), (r 1, .inl (cI, 9400, .inl tp)), (r 51, .inl (cI, 8192, .inl wr)), (r 52, .inl (cI, 4200, .inl g311))]) hD hS hA [2, 0, 1, 3] rfl
                        refine va_callv (va_runV (As := [.int (nI i9)]) (rest := []) ⟨hx, hb, hml, hown, hts⟩ (c_Mo_writePackets l D H.size cI h r 0 le lv pg pn pl (sealL 3 (moL nm how t0 ln)) g311 T tp (wf i9) i9 wr e311 (by omega) htp (by rw [hs4]; omega) (by omega) (hwf _ (by omega)) (hwb _ (by omega))) (z_cV hN wd_1461 wd_67 wd_1458 hd_Mo_writePackets rfl rfl ⟨Nat.le_of_ble_eq_true rfl, Nat.le_of_ble_eq_true rfl⟩ wd_1460 wd_57) (z_preVm (va_recv (ci := 13) (q0 := 2) hK hP rfl rfl) hPc hKc hN hDc) rfl rfl hl.1 rfl (lv_room (Nat.le_of_ble_eq_true rfl)) d_Mo_writeOrder_316 ⟨Nat.le_of_ble_eq_true rfl, Nat.le_of_ble_eq_true rfl⟩) hS (fun q _ h => hFc q h) hFc (fun g316 t H locs ht hvm e316 hB hz1 hk1 hS => ?_)
                        obtain ⟨hP1, hK1, hD1⟩ := hB
                        rw [ht] at hP1
                        obtain ⟨hP, hD⟩ := va_join (wr := []) (w1 := [(h, .inr (13, mO r 0 (nI (T ++ ppL i9 (wf i9) (sealL 3 (moL nm how t0 ln)).length 0 (sealL 3 (moL nm how t0 ln))).length) le lv pg pn pl (nI (sealL 3 (moL nm how t0 ln)).length))), (r 1, .inl (cI, 9400, .inl g316)), (r 51, .inl (cI, 8192, .inl (upd wr i9 (nI ((wf i9) + ((sealL 3 (moL nm how t0 ln)).length + 183) / 184))))), (r 52, .inl (cI, 4200, .inl g311))]) hP hD [2, 0, 1, 3] [] rfl rfl (by decide) (by decide) hk1 hFc hP1 hD1
                        clear hk1 hP1 hD1 hFc hPc hDc hz1
                        have hP : va_P D classes [(h, .inr (13, mO r 0 (nI (T ++ ppL i9 (wf i9) (sealL 3 (moL nm how t0 ln)).length 0 (sealL 3 (moL nm how t0 ln))).length) le lv pg pn pl (nI (sealL 3 (moL nm how t0 ln)).length))), (r 1, .inl (cI, 9400, .inl g316)), (r 51, .inl (cI, 8192, .inl (upd wr i9 (nI ((wf i9) + ((sealL 3 (moL nm how t0 ln)).length + 183) / 184))))), (r 52, .inl (cI, 4200, .inl g311))] H := hP
                        have hD : va_D A [(h, .inr (13, mO r 0 (nI (T ++ ppL i9 (wf i9) (sealL 3 (moL nm how t0 ln)).length 0 (sealL 3 (moL nm how t0 ln))).length) le lv pg pn pl (nI (sealL 3 (moL nm how t0 ln)).length))), (r 1, .inl (cI, 9400, .inl g316)), (r 51, .inl (cI, 8192, .inl (upd wr i9 (nI ((wf i9) + ((sealL 3 (moL nm how t0 ln)).length + 183) / 184))))), (r 52, .inl (cI, 4200, .inl g311))] := hD
                        refine lv_aload_n hx hb d_Mo_writeOrder_319 rfl (lv_at hl 1 rfl) ?_
                        refine va_get (D := D) (ci := 13) (v := .int (nI (T ++ ppL i9 (wf i9) (sealL 3 (moL nm how t0 ln)).length 0 (sealL 3 (moL nm how t0 ln))).length)) (C := R_Mo) (T := F_Mo) (N := 54) hx hb hts i_Mo hown hK hP 0 rfl rfl 2 (by decide) (hts _ wd_1090) (fun _ h9 => h9) rfl d_Mo_writeOrder_320 ?_
                        have hP9 := hP.sub (ws' := [(h, .inr (13, mO r 0 (nI (T ++ ppL i9 (wf i9) (sealL 3 (moL nm how t0 ln)).length 0 (sealL 3 (moL nm how t0 ln))).length) le lv pg pn pl (nI (sealL 3 (moL nm how t0 ln)).length))), (r 1, .inl (cI, 9400, .inl g316)), (r 51, .inl (cI, 8192, .inl (upd wr i9 (nI ((wf i9) + ((sealL 3 (moL nm how t0 ln)).length + 183) / 184))))), (r 52, .inl (cI, 4200, .inl g311))]) [0, 1, 2, 3] rfl
                        have hD9 := hD.sub (ws' := [(h, .inr (13, mO r 0 (nI (T ++ ppL i9 (wf i9) (sealL 3 (moL nm how t0 ln)).length 0 (sealL 3 (moL nm how t0 ln))).length) le lv pg pn pl (nI (sealL 3 (moL nm how t0 ln)).length))), (r 1, .inl (cI, 9400, .inl g316)), (r 51, .inl (cI, 8192, .inl (upd wr i9 (nI ((wf i9) + ((sealL 3 (moL nm how t0 ln)).length + 183) / 184))))), (r 52, .inl (cI, 4200, .inl g311))]) [0, 1, 2, 3] (by decide) rfl
                        have hK9 := hK.sub (tys' := [(cI, .int)]) [0] rfl
                        exact W.iret (v := (nI (T ++ ppL i9 (wf i9) (sealL 3 (moL nm how t0 ln)).length 0 (sealL 3 (moL nm how t0 ln))).length)) hx hb hr (fun t ht hW => ⟨⟨_, (0, nI (T ++ ppL i9 (wf i9) (sealL 3 (moL nm how t0 ln)).length 0 (sealL 3 (moL nm how t0 ln))).length, nI (sealL 3 (moL nm how t0 ln)).length, g316, upd wr i9 (nI (wf i9 + ((sealL 3 (moL nm how t0 ln)).length + 183) / 184)), g311), rfl, Or.inr ⟨hbad, i9, rfl, hi9, Or.inr ⟨h69, ⟨rfl, e316, rfl, rfl, rfl⟩⟩⟩, ⟨by rw [ht]; exact hP9, va_K.moved hW.alike hK9, hD9⟩⟩, hS.F ht⟩) hS.2.2 d_Mo_writeOrder_323
                    · have h231 := mo_0 h231
                      refine lv_iload_n hx hb d_Mo_writeOrder_234 rfl (lv_at hl 4 rfl) ?_
                      refine lv_bipush (v := 31) hx hb d_Mo_writeOrder_235 (by decide) ?_
                      refine lv_icmp_le (tgt := 254) hx hb d_Mo_writeOrder_237 rfl (fun h237 => ?_) (fun h237 => ?_)
                      · have h237 : ¬ 31 < how := Int32.not_lt.mpr h237
                        refine lv_iload hx hb d_Mo_writeOrder_254 (lv_at hl 0 rfl) ?_
                        refine lv_if_ne (tgt := 267) hx hb d_Mo_writeOrder_256 rfl (fun h9 => absurd (if_neg h231) h9) (fun h256 => ?_)
                        refine lv_aload_n hx hb d_Mo_writeOrder_259 rfl (lv_at hl 1 rfl) ?_
                        refine lv_ldc2 hx hb hown (hts _ wd_1480) d_Mo_writeOrder_260 ?_
                        refine lv_iconst (v := 1) hx hb d_Mo_writeOrder_263 (by decide) ?_
                        have hPc := hP.sub (ws' := [(h, .inr (13, mO r 0 (nI T.length) le lv pg pn pl (nI ((((((((((([] : List Int32) ++ bsL 0 1) ++ bsL 252 1) ++ bsL 0 2) ++ bsL 0 1) ++ bsL (541165879296 ||| (ln >>> ((33 : Int32).toInt64 &&& 63))) 5) ++ bsL 4294967295 4) ++ bsL 5 1) ++ bsL (nm.toInt64 &&& 4294967295) 4) ++ bsL (if how - how / 2 * 2 = 1 then 255 else 127) 1) ++ bsL ((moF how).toInt64) 1).length))), (r 52, .inl (cI, 4200, .inl g226))]) [2, 3] rfl
                        have hKc := hK.sub (tys' := [(cI, .int)]) [0] rfl
                        have hDc := hD.sub (ws' := [(h, .inr (13, mO r 0 (nI T.length) le lv pg pn pl (nI ((((((((((([] : List Int32) ++ bsL 0 1) ++ bsL 252 1) ++ bsL 0 2) ++ bsL 0 1) ++ bsL (541165879296 ||| (ln >>> ((33 : Int32).toInt64 &&& 63))) 5) ++ bsL 4294967295 4) ++ bsL 5 1) ++ bsL (nm.toInt64 &&& 4294967295) 4) ++ bsL (if how - how / 2 * 2 = 1 then 255 else 127) 1) ++ bsL ((moF how).toInt64) 1).length))), (r 52, .inl (cI, 4200, .inl g226))]) [2, 3] (by decide) rfl
                        have hFc := va_free (wc := [(h, .inr (13, mO r 0 (nI T.length) le lv pg pn pl (nI ((((((((((([] : List Int32) ++ bsL 0 1) ++ bsL 252 1) ++ bsL 0 2) ++ bsL 0 1) ++ bsL (541165879296 ||| (ln >>> ((33 : Int32).toInt64 &&& 63))) 5) ++ bsL 4294967295 4) ++ bsL 5 1) ++ bsL (nm.toInt64 &&& 4294967295) 4) ++ bsL (if how - how / 2 * 2 = 1 then 255 else 127) 1) ++ bsL ((moF how).toInt64) 1).length))), (r 52, .inl (cI, 4200, .inl g226))]) hD hS hA [2, 3] rfl
                        refine va_callv (va_runV (As := [.long 127, .int (nI 1)]) (rest := []) ⟨hx, hb, hml, hown, hts⟩ (c_Mo_put l D H.size cI h r 0 (nI T.length) le lv pg pn pl ((((((((((([] : List Int32) ++ bsL 0 1) ++ bsL 252 1) ++ bsL 0 2) ++ bsL 0 1) ++ bsL (541165879296 ||| (ln >>> ((33 : Int32).toInt64 &&& 63))) 5) ++ bsL 4294967295 4) ++ bsL 5 1) ++ bsL (nm.toInt64 &&& 4294967295) 4) ++ bsL (if how - how / 2 * 2 = 1 then 255 else 127) 1) ++ bsL ((moF how).toInt64) 1) g226 127 1 e226 (by (try simp only [List.length_append, bs_len, List.length_nil]); omega) (by omega) (by omega)) (z_cV hN wd_1451 wd_67 wd_1448 hd_Mo_put rfl rfl ⟨Nat.le_of_ble_eq_true rfl, Nat.le_of_ble_eq_true rfl⟩ wd_1450 wd_55) (z_preVm (va_recv (ci := 13) (q0 := 2) hK hP rfl rfl) hPc hKc hN hDc) rfl rfl hl.1 rfl (lv_room (Nat.le_of_ble_eq_true rfl)) d_Mo_writeOrder_264 ⟨Nat.le_of_ble_eq_true rfl, Nat.le_of_ble_eq_true rfl⟩) hS (fun q _ h => hFc q h) hFc (fun g264 t H locs ht hvm e264 hB hz1 hk1 hS => ?_)
                        obtain ⟨hP1, hK1, hD1⟩ := hB
                        rw [ht] at hP1
                        obtain ⟨hP, hD⟩ := va_join (wr := [(r 1, .inl (cI, 9400, .inl tp)), (r 51, .inl (cI, 8192, .inl wr))]) (w1 := [(h, .inr (13, mO r 0 (nI T.length) le lv pg pn pl (nI (((((((((((([] : List Int32) ++ bsL 0 1) ++ bsL 252 1) ++ bsL 0 2) ++ bsL 0 1) ++ bsL (541165879296 ||| (ln >>> ((33 : Int32).toInt64 &&& 63))) 5) ++ bsL 4294967295 4) ++ bsL 5 1) ++ bsL (nm.toInt64 &&& 4294967295) 4) ++ bsL (if how - how / 2 * 2 = 1 then 255 else 127) 1) ++ bsL ((moF how).toInt64) 1) ++ bsL 127 1).length))), (r 52, .inl (cI, 4200, .inl g264))]) hP hD [2, 3] [0, 1] rfl rfl (by decide) (by decide) hk1 hFc hP1 hD1
                        clear hk1 hP1 hD1 hFc hPc hDc hz1
                        have hP : va_P D classes [(r 1, .inl (cI, 9400, .inl tp)), (r 51, .inl (cI, 8192, .inl wr)), (h, .inr (13, mO r 0 (nI T.length) le lv pg pn pl (nI (((((((((((([] : List Int32) ++ bsL 0 1) ++ bsL 252 1) ++ bsL 0 2) ++ bsL 0 1) ++ bsL (541165879296 ||| (ln >>> ((33 : Int32).toInt64 &&& 63))) 5) ++ bsL 4294967295 4) ++ bsL 5 1) ++ bsL (nm.toInt64 &&& 4294967295) 4) ++ bsL (if how - how / 2 * 2 = 1 then 255 else 127) 1) ++ bsL ((moF how).toInt64) 1) ++ bsL 127 1).length))), (r 52, .inl (cI, 4200, .inl g264))] H := hP
                        have hD : va_D A [(r 1, .inl (cI, 9400, .inl tp)), (r 51, .inl (cI, 8192, .inl wr)), (h, .inr (13, mO r 0 (nI T.length) le lv pg pn pl (nI (((((((((((([] : List Int32) ++ bsL 0 1) ++ bsL 252 1) ++ bsL 0 2) ++ bsL 0 1) ++ bsL (541165879296 ||| (ln >>> ((33 : Int32).toInt64 &&& 63))) 5) ++ bsL 4294967295 4) ++ bsL 5 1) ++ bsL (nm.toInt64 &&& 4294967295) 4) ++ bsL (if how - how / 2 * 2 = 1 then 255 else 127) 1) ++ bsL ((moF how).toInt64) 1) ++ bsL 127 1).length))), (r 52, .inl (cI, 4200, .inl g264))] := hD
                        refine lv_iload_n hx hb d_Mo_writeOrder_267 rfl (lv_at hl 4 rfl) ?_
                        refine lv_iconst (v := 3) hx hb d_Mo_writeOrder_268 (by decide) ?_
                        refine lv_ishr hx hb d_Mo_writeOrder_269 ?_
                        refine lv_iconst (v := 1) hx hb d_Mo_writeOrder_270 (by decide) ?_
                        refine lv_iand hx hb d_Mo_writeOrder_271 ?_
                        refine lv_iconst (v := 1) hx hb d_Mo_writeOrder_272 (by decide) ?_
                        refine lv_icmp_ne (tgt := 301) hx hb d_Mo_writeOrder_273 rfl (fun h273 => ?_) (fun h273 => ?_)
                        · have h273 := h273
                          refine lv_aload_n hx hb d_Mo_writeOrder_301 rfl (lv_at hl 1 rfl) ?_
                          refine lv_ldc2 hx hb hown (hts _ wd_1414) d_Mo_writeOrder_302 ?_
                          refine lv_iconst (v := 4) hx hb d_Mo_writeOrder_305 (by decide) ?_
                          have hPc := hP.sub (ws' := [(h, .inr (13, mO r 0 (nI T.length) le lv pg pn pl (nI (((((((((((([] : List Int32) ++ bsL 0 1) ++ bsL 252 1) ++ bsL 0 2) ++ bsL 0 1) ++ bsL (541165879296 ||| (ln >>> ((33 : Int32).toInt64 &&& 63))) 5) ++ bsL 4294967295 4) ++ bsL 5 1) ++ bsL (nm.toInt64 &&& 4294967295) 4) ++ bsL (if how - how / 2 * 2 = 1 then 255 else 127) 1) ++ bsL ((moF how).toInt64) 1) ++ bsL 127 1).length))), (r 52, .inl (cI, 4200, .inl g264))]) [2, 3] rfl
                          have hKc := hK.sub (tys' := [(cI, .int)]) [0] rfl
                          have hDc := hD.sub (ws' := [(h, .inr (13, mO r 0 (nI T.length) le lv pg pn pl (nI (((((((((((([] : List Int32) ++ bsL 0 1) ++ bsL 252 1) ++ bsL 0 2) ++ bsL 0 1) ++ bsL (541165879296 ||| (ln >>> ((33 : Int32).toInt64 &&& 63))) 5) ++ bsL 4294967295 4) ++ bsL 5 1) ++ bsL (nm.toInt64 &&& 4294967295) 4) ++ bsL (if how - how / 2 * 2 = 1 then 255 else 127) 1) ++ bsL ((moF how).toInt64) 1) ++ bsL 127 1).length))), (r 52, .inl (cI, 4200, .inl g264))]) [2, 3] (by decide) rfl
                          have hFc := va_free (wc := [(h, .inr (13, mO r 0 (nI T.length) le lv pg pn pl (nI (((((((((((([] : List Int32) ++ bsL 0 1) ++ bsL 252 1) ++ bsL 0 2) ++ bsL 0 1) ++ bsL (541165879296 ||| (ln >>> ((33 : Int32).toInt64 &&& 63))) 5) ++ bsL 4294967295 4) ++ bsL 5 1) ++ bsL (nm.toInt64 &&& 4294967295) 4) ++ bsL (if how - how / 2 * 2 = 1 then 255 else 127) 1) ++ bsL ((moF how).toInt64) 1) ++ bsL 127 1).length))), (r 52, .inl (cI, 4200, .inl g264))]) hD hS hA [2, 3] rfl
                          refine va_callv (va_runV (As := [.long 4294967295, .int (nI 4)]) (rest := []) ⟨hx, hb, hml, hown, hts⟩ (c_Mo_put l D H.size cI h r 0 (nI T.length) le lv pg pn pl (((((((((((([] : List Int32) ++ bsL 0 1) ++ bsL 252 1) ++ bsL 0 2) ++ bsL 0 1) ++ bsL (541165879296 ||| (ln >>> ((33 : Int32).toInt64 &&& 63))) 5) ++ bsL 4294967295 4) ++ bsL 5 1) ++ bsL (nm.toInt64 &&& 4294967295) 4) ++ bsL (if how - how / 2 * 2 = 1 then 255 else 127) 1) ++ bsL ((moF how).toInt64) 1) ++ bsL 127 1) g264 4294967295 4 e264 (by (try simp only [List.length_append, bs_len, List.length_nil]); omega) (by omega) (by omega)) (z_cV hN wd_1451 wd_67 wd_1448 hd_Mo_put rfl rfl ⟨Nat.le_of_ble_eq_true rfl, Nat.le_of_ble_eq_true rfl⟩ wd_1450 wd_55) (z_preVm (va_recv (ci := 13) (q0 := 2) hK hP rfl rfl) hPc hKc hN hDc) rfl rfl hl.1 rfl (lv_room (Nat.le_of_ble_eq_true rfl)) d_Mo_writeOrder_306 ⟨Nat.le_of_ble_eq_true rfl, Nat.le_of_ble_eq_true rfl⟩) hS (fun q _ h => hFc q h) hFc (fun g306 t H locs ht hvm e306 hB hz1 hk1 hS => ?_)
                          obtain ⟨hP1, hK1, hD1⟩ := hB
                          rw [ht] at hP1
                          obtain ⟨hP, hD⟩ := va_join (wr := [(r 1, .inl (cI, 9400, .inl tp)), (r 51, .inl (cI, 8192, .inl wr))]) (w1 := [(h, .inr (13, mO r 0 (nI T.length) le lv pg pn pl (nI ((((((((((((([] : List Int32) ++ bsL 0 1) ++ bsL 252 1) ++ bsL 0 2) ++ bsL 0 1) ++ bsL (541165879296 ||| (ln >>> ((33 : Int32).toInt64 &&& 63))) 5) ++ bsL 4294967295 4) ++ bsL 5 1) ++ bsL (nm.toInt64 &&& 4294967295) 4) ++ bsL (if how - how / 2 * 2 = 1 then 255 else 127) 1) ++ bsL ((moF how).toInt64) 1) ++ bsL 127 1) ++ bsL 4294967295 4).length))), (r 52, .inl (cI, 4200, .inl g306))]) hP hD [2, 3] [0, 1] rfl rfl (by decide) (by decide) hk1 hFc hP1 hD1
                          clear hk1 hP1 hD1 hFc hPc hDc hz1
                          have hP : va_P D classes [(r 1, .inl (cI, 9400, .inl tp)), (r 51, .inl (cI, 8192, .inl wr)), (h, .inr (13, mO r 0 (nI T.length) le lv pg pn pl (nI ((((((((((((([] : List Int32) ++ bsL 0 1) ++ bsL 252 1) ++ bsL 0 2) ++ bsL 0 1) ++ bsL (541165879296 ||| (ln >>> ((33 : Int32).toInt64 &&& 63))) 5) ++ bsL 4294967295 4) ++ bsL 5 1) ++ bsL (nm.toInt64 &&& 4294967295) 4) ++ bsL (if how - how / 2 * 2 = 1 then 255 else 127) 1) ++ bsL ((moF how).toInt64) 1) ++ bsL 127 1) ++ bsL 4294967295 4).length))), (r 52, .inl (cI, 4200, .inl g306))] H := hP
                          have hD : va_D A [(r 1, .inl (cI, 9400, .inl tp)), (r 51, .inl (cI, 8192, .inl wr)), (h, .inr (13, mO r 0 (nI T.length) le lv pg pn pl (nI ((((((((((((([] : List Int32) ++ bsL 0 1) ++ bsL 252 1) ++ bsL 0 2) ++ bsL 0 1) ++ bsL (541165879296 ||| (ln >>> ((33 : Int32).toInt64 &&& 63))) 5) ++ bsL 4294967295 4) ++ bsL 5 1) ++ bsL (nm.toInt64 &&& 4294967295) 4) ++ bsL (if how - how / 2 * 2 = 1 then 255 else 127) 1) ++ bsL ((moF how).toInt64) 1) ++ bsL 127 1) ++ bsL 4294967295 4).length))), (r 52, .inl (cI, 4200, .inl g306))] := hD
                          have hle : (((((((((((([] : List Int32) ++ bsL 0 1) ++ bsL 252 1) ++ bsL 0 2) ++ bsL 0 1) ++ bsL (541165879296 ||| (ln >>> ((33 : Int32).toInt64 &&& 63))) 5) ++ bsL 4294967295 4) ++ bsL 5 1) ++ bsL (nm.toInt64 &&& 4294967295) 4) ++ bsL (if how - how / 2 * 2 = 1 then 255 else 127) 1) ++ bsL ((moF how).toInt64) 1) ++ bsL 127 1) ++ bsL 4294967295 4 = moL nm how t0 ln := by unfold moL; first | (rw [if_neg h186]; rfl) | (rw [if_pos h186]; unfold moB moD; first | (rw [if_pos h231]; first | (rw [if_pos h273, List.append_nil]; rfl) | (rw [if_neg h273, List.append_nil, List.append_nil]; rfl)) | (rw [if_neg h231]; first | (rw [if_pos h237]; first | (rw [if_pos h273]; rfl) | (rw [if_neg h273, List.append_nil]; rfl)) | (rw [if_neg h237]; first | (rw [if_pos h273]; rfl) | (rw [if_neg h273, List.append_nil]; rfl))))
                          rw [hle] at hP hD e306
                          have hml2 := mo_len nm how t0 ln
                          refine lv_aload_n hx hb d_Mo_writeOrder_309 rfl (lv_at hl 1 rfl) ?_
                          refine lv_iconst (v := 3) hx hb d_Mo_writeOrder_310 (by decide) ?_
                          have hPc := hP.sub (ws' := [(h, .inr (13, mO r 0 (nI T.length) le lv pg pn pl (nI (moL nm how t0 ln).length))), (r 52, .inl (cI, 4200, .inl g306))]) [2, 3] rfl
                          have hKc := hK.sub (tys' := [(cI, .int)]) [0] rfl
                          have hDc := hD.sub (ws' := [(h, .inr (13, mO r 0 (nI T.length) le lv pg pn pl (nI (moL nm how t0 ln).length))), (r 52, .inl (cI, 4200, .inl g306))]) [2, 3] (by decide) rfl
                          have hFc := va_free (wc := [(h, .inr (13, mO r 0 (nI T.length) le lv pg pn pl (nI (moL nm how t0 ln).length))), (r 52, .inl (cI, 4200, .inl g306))]) hD hS hA [2, 3] rfl
                          refine va_callv (va_runV (As := [.int 3]) (rest := []) ⟨hx, hb, hml, hown, hts⟩ (c_Mo_sealRow l D H.size cI h r 0 (nI T.length) le lv pg pn pl (moL nm how t0 ln) g306 3 e306 hml2.1 hml2.2) (z_cV hN wd_1457 wd_67 wd_1454 hd_Mo_sealRow rfl rfl ⟨Nat.le_of_ble_eq_true rfl, Nat.le_of_ble_eq_true rfl⟩ wd_1456 wd_56) (z_preVm (va_recv (ci := 13) (q0 := 2) hK hP rfl rfl) hPc hKc hN hDc) rfl rfl hl.1 rfl (lv_room (Nat.le_of_ble_eq_true rfl)) d_Mo_writeOrder_311 ⟨Nat.le_of_ble_eq_true rfl, Nat.le_of_ble_eq_true rfl⟩) hS (fun q _ h => hFc q h) hFc (fun g311 t H locs ht hvm e311 hB hz1 hk1 hS => ?_)
                          obtain ⟨hP1, hK1, hD1⟩ := hB
                          rw [ht] at hP1
                          obtain ⟨hP, hD⟩ := va_join (wr := [(r 1, .inl (cI, 9400, .inl tp)), (r 51, .inl (cI, 8192, .inl wr))]) (w1 := [(h, .inr (13, mO r 0 (nI T.length) le lv pg pn pl (nI 184))), (r 52, .inl (cI, 4200, .inl g311))]) hP hD [2, 3] [0, 1] rfl rfl (by decide) (by decide) hk1 hFc hP1 hD1
                          clear hk1 hP1 hD1 hFc hPc hDc hz1
                          have hP : va_P D classes [(r 1, .inl (cI, 9400, .inl tp)), (r 51, .inl (cI, 8192, .inl wr)), (h, .inr (13, mO r 0 (nI T.length) le lv pg pn pl (nI 184))), (r 52, .inl (cI, 4200, .inl g311))] H := hP
                          have hD : va_D A [(r 1, .inl (cI, 9400, .inl tp)), (r 51, .inl (cI, 8192, .inl wr)), (h, .inr (13, mO r 0 (nI T.length) le lv pg pn pl (nI 184))), (r 52, .inl (cI, 4200, .inl g311))] := hD
                          have hs4 : (sealL 3 (moL nm how t0 ln)).length = 184 := sealL_len hml2.2
                          have hs5 : nI 184 = nI (sealL 3 (moL nm how t0 ln)).length := by rw [hs4]
                          rw [hs5] at hP hD
                          refine lv_aload_n hx hb d_Mo_writeOrder_314 rfl (lv_at hl 1 rfl) ?_
                          refine lv_iload_n hx hb d_Mo_writeOrder_315 rfl (lv_at hl 2 rfl) ?_
                          have hPc := hP.sub (ws' := [(h, .inr (13, mO r 0 (nI T.length) le lv pg pn pl (nI (sealL 3 (moL nm how t0 ln)).length))), (r 1, .inl (cI, 9400, .inl tp)), (r 51, .inl (cI, 8192, .inl wr)), (r 52, .inl (cI, 4200, .inl g311))]) [2, 0, 1, 3] rfl
                          have hKc := hK.sub (tys' := [(cI, .int)]) [0] rfl
                          have hDc := hD.sub (ws' := [(h, .inr (13, mO r 0 (nI T.length) le lv pg pn pl (nI (sealL 3 (moL nm how t0 ln)).length))), (r 1, .inl (cI, 9400, .inl tp)), (r 51, .inl (cI, 8192, .inl wr)), (r 52, .inl (cI, 4200, .inl g311))]) [2, 0, 1, 3] (by decide) rfl
                          have hFc := va_free (wc := [(h, .inr (13, mO r 0 (nI T.length) le lv pg pn pl (nI (sealL 3 (moL nm how t0 ln)).length))), (r 1, .inl (cI, 9400, .inl tp)), (r 51, .inl (cI, 8192, .inl wr)), (r 52, .inl (cI, 4200, .inl g311))]) hD hS hA [2, 0, 1, 3] rfl
                          refine va_callv (va_runV (As := [.int (nI i9)]) (rest := []) ⟨hx, hb, hml, hown, hts⟩ (c_Mo_writePackets l D H.size cI h r 0 le lv pg pn pl (sealL 3 (moL nm how t0 ln)) g311 T tp (wf i9) i9 wr e311 (by omega) htp (by rw [hs4]; omega) (by omega) (hwf _ (by omega)) (hwb _ (by omega))) (z_cV hN wd_1461 wd_67 wd_1458 hd_Mo_writePackets rfl rfl ⟨Nat.le_of_ble_eq_true rfl, Nat.le_of_ble_eq_true rfl⟩ wd_1460 wd_57) (z_preVm (va_recv (ci := 13) (q0 := 2) hK hP rfl rfl) hPc hKc hN hDc) rfl rfl hl.1 rfl (lv_room (Nat.le_of_ble_eq_true rfl)) d_Mo_writeOrder_316 ⟨Nat.le_of_ble_eq_true rfl, Nat.le_of_ble_eq_true rfl⟩) hS (fun q _ h => hFc q h) hFc (fun g316 t H locs ht hvm e316 hB hz1 hk1 hS => ?_)
                          obtain ⟨hP1, hK1, hD1⟩ := hB
                          rw [ht] at hP1
                          obtain ⟨hP, hD⟩ := va_join (wr := []) (w1 := [(h, .inr (13, mO r 0 (nI (T ++ ppL i9 (wf i9) (sealL 3 (moL nm how t0 ln)).length 0 (sealL 3 (moL nm how t0 ln))).length) le lv pg pn pl (nI (sealL 3 (moL nm how t0 ln)).length))), (r 1, .inl (cI, 9400, .inl g316)), (r 51, .inl (cI, 8192, .inl (upd wr i9 (nI ((wf i9) + ((sealL 3 (moL nm how t0 ln)).length + 183) / 184))))), (r 52, .inl (cI, 4200, .inl g311))]) hP hD [2, 0, 1, 3] [] rfl rfl (by decide) (by decide) hk1 hFc hP1 hD1
                          clear hk1 hP1 hD1 hFc hPc hDc hz1
                          have hP : va_P D classes [(h, .inr (13, mO r 0 (nI (T ++ ppL i9 (wf i9) (sealL 3 (moL nm how t0 ln)).length 0 (sealL 3 (moL nm how t0 ln))).length) le lv pg pn pl (nI (sealL 3 (moL nm how t0 ln)).length))), (r 1, .inl (cI, 9400, .inl g316)), (r 51, .inl (cI, 8192, .inl (upd wr i9 (nI ((wf i9) + ((sealL 3 (moL nm how t0 ln)).length + 183) / 184))))), (r 52, .inl (cI, 4200, .inl g311))] H := hP
                          have hD : va_D A [(h, .inr (13, mO r 0 (nI (T ++ ppL i9 (wf i9) (sealL 3 (moL nm how t0 ln)).length 0 (sealL 3 (moL nm how t0 ln))).length) le lv pg pn pl (nI (sealL 3 (moL nm how t0 ln)).length))), (r 1, .inl (cI, 9400, .inl g316)), (r 51, .inl (cI, 8192, .inl (upd wr i9 (nI ((wf i9) + ((sealL 3 (moL nm how t0 ln)).length + 183) / 184))))), (r 52, .inl (cI, 4200, .inl g311))] := hD
                          refine lv_aload_n hx hb d_Mo_writeOrder_319 rfl (lv_at hl 1 rfl) ?_
                          refine va_get (D := D) (ci := 13) (v := .int (nI (T ++ ppL i9 (wf i9) (sealL 3 (moL nm how t0 ln)).length 0 (sealL 3 (moL nm how t0 ln))).length)) (C := R_Mo) (T := F_Mo) (N := 54) hx hb hts i_Mo hown hK hP 0 rfl rfl 2 (by decide) (hts _ wd_1090) (fun _ h9 => h9) rfl d_Mo_writeOrder_320 ?_
                          have hP9 := hP.sub (ws' := [(h, .inr (13, mO r 0 (nI (T ++ ppL i9 (wf i9) (sealL 3 (moL nm how t0 ln)).length 0 (sealL 3 (moL nm how t0 ln))).length) le lv pg pn pl (nI (sealL 3 (moL nm how t0 ln)).length))), (r 1, .inl (cI, 9400, .inl g316)), (r 51, .inl (cI, 8192, .inl (upd wr i9 (nI ((wf i9) + ((sealL 3 (moL nm how t0 ln)).length + 183) / 184))))), (r 52, .inl (cI, 4200, .inl g311))]) [0, 1, 2, 3] rfl
                          have hD9 := hD.sub (ws' := [(h, .inr (13, mO r 0 (nI (T ++ ppL i9 (wf i9) (sealL 3 (moL nm how t0 ln)).length 0 (sealL 3 (moL nm how t0 ln))).length) le lv pg pn pl (nI (sealL 3 (moL nm how t0 ln)).length))), (r 1, .inl (cI, 9400, .inl g316)), (r 51, .inl (cI, 8192, .inl (upd wr i9 (nI ((wf i9) + ((sealL 3 (moL nm how t0 ln)).length + 183) / 184))))), (r 52, .inl (cI, 4200, .inl g311))]) [0, 1, 2, 3] (by decide) rfl
                          have hK9 := hK.sub (tys' := [(cI, .int)]) [0] rfl
                          exact W.iret (v := (nI (T ++ ppL i9 (wf i9) (sealL 3 (moL nm how t0 ln)).length 0 (sealL 3 (moL nm how t0 ln))).length)) hx hb hr (fun t ht hW => ⟨⟨_, (0, nI (T ++ ppL i9 (wf i9) (sealL 3 (moL nm how t0 ln)).length 0 (sealL 3 (moL nm how t0 ln))).length, nI (sealL 3 (moL nm how t0 ln)).length, g316, upd wr i9 (nI (wf i9 + ((sealL 3 (moL nm how t0 ln)).length + 183) / 184)), g311), rfl, Or.inr ⟨hbad, i9, rfl, hi9, Or.inr ⟨h69, ⟨rfl, e316, rfl, rfl, rfl⟩⟩⟩, ⟨by rw [ht]; exact hP9, va_K.moved hW.alike hK9, hD9⟩⟩, hS.F ht⟩) hS.2.2 d_Mo_writeOrder_323
                        · refine lv_aload_n hx hb d_Mo_writeOrder_276 rfl (lv_at hl 1 rfl) ?_
                          refine lv_iload_n hx hb d_Mo_writeOrder_277 rfl (lv_at hl 4 rfl) ?_
                          refine lv_iconst (v := 4) hx hb d_Mo_writeOrder_278 (by decide) ?_
                          refine lv_ishr hx hb d_Mo_writeOrder_279 ?_
                          refine lv_i2l (v := (how >>> (4 &&& 31)).toInt64) hx hb d_Mo_writeOrder_280 rfl ?_
                          refine lv_lconst (v := 1) hx hb d_Mo_writeOrder_281 (by decide) ?_
                          refine lv_land hx hb d_Mo_writeOrder_282 ?_
                          refine lv_bipush (v := 39) hx hb d_Mo_writeOrder_283 (by decide) ?_
                          refine lv_lshl (v := (((how >>> (4 &&& 31)).toInt64) &&& 1) <<< ((39 : Int32).toInt64 &&& 63)) hx hb d_Mo_writeOrder_285 rfl ?_
                          refine lv_ldc2 hx hb hown (hts _ wd_1478) d_Mo_writeOrder_286 ?_
                          refine lv_lor hx hb d_Mo_writeOrder_289 ?_
                          refine lv_lload hx hb d_Mo_writeOrder_290 (lv_at hl 6 rfl) ?_
                          refine lv_ldc2 hx hb hown (hts _ wd_1482) d_Mo_writeOrder_292 ?_
                          refine lv_land hx hb d_Mo_writeOrder_295 ?_
                          refine lv_lor hx hb d_Mo_writeOrder_296 ?_
                          refine z_topl (w := moV how ln) rfl ?_
                          refine lv_iconst (v := 5) hx hb d_Mo_writeOrder_297 (by decide) ?_
                          have hPc := hP.sub (ws' := [(h, .inr (13, mO r 0 (nI T.length) le lv pg pn pl (nI (((((((((((([] : List Int32) ++ bsL 0 1) ++ bsL 252 1) ++ bsL 0 2) ++ bsL 0 1) ++ bsL (541165879296 ||| (ln >>> ((33 : Int32).toInt64 &&& 63))) 5) ++ bsL 4294967295 4) ++ bsL 5 1) ++ bsL (nm.toInt64 &&& 4294967295) 4) ++ bsL (if how - how / 2 * 2 = 1 then 255 else 127) 1) ++ bsL ((moF how).toInt64) 1) ++ bsL 127 1).length))), (r 52, .inl (cI, 4200, .inl g264))]) [2, 3] rfl
                          have hKc := hK.sub (tys' := [(cI, .int)]) [0] rfl
                          have hDc := hD.sub (ws' := [(h, .inr (13, mO r 0 (nI T.length) le lv pg pn pl (nI (((((((((((([] : List Int32) ++ bsL 0 1) ++ bsL 252 1) ++ bsL 0 2) ++ bsL 0 1) ++ bsL (541165879296 ||| (ln >>> ((33 : Int32).toInt64 &&& 63))) 5) ++ bsL 4294967295 4) ++ bsL 5 1) ++ bsL (nm.toInt64 &&& 4294967295) 4) ++ bsL (if how - how / 2 * 2 = 1 then 255 else 127) 1) ++ bsL ((moF how).toInt64) 1) ++ bsL 127 1).length))), (r 52, .inl (cI, 4200, .inl g264))]) [2, 3] (by decide) rfl
                          have hFc := va_free (wc := [(h, .inr (13, mO r 0 (nI T.length) le lv pg pn pl (nI (((((((((((([] : List Int32) ++ bsL 0 1) ++ bsL 252 1) ++ bsL 0 2) ++ bsL 0 1) ++ bsL (541165879296 ||| (ln >>> ((33 : Int32).toInt64 &&& 63))) 5) ++ bsL 4294967295 4) ++ bsL 5 1) ++ bsL (nm.toInt64 &&& 4294967295) 4) ++ bsL (if how - how / 2 * 2 = 1 then 255 else 127) 1) ++ bsL ((moF how).toInt64) 1) ++ bsL 127 1).length))), (r 52, .inl (cI, 4200, .inl g264))]) hD hS hA [2, 3] rfl
                          refine va_callv (va_runV (As := [.long (moV how ln), .int (nI 5)]) (rest := []) ⟨hx, hb, hml, hown, hts⟩ (c_Mo_put l D H.size cI h r 0 (nI T.length) le lv pg pn pl (((((((((((([] : List Int32) ++ bsL 0 1) ++ bsL 252 1) ++ bsL 0 2) ++ bsL 0 1) ++ bsL (541165879296 ||| (ln >>> ((33 : Int32).toInt64 &&& 63))) 5) ++ bsL 4294967295 4) ++ bsL 5 1) ++ bsL (nm.toInt64 &&& 4294967295) 4) ++ bsL (if how - how / 2 * 2 = 1 then 255 else 127) 1) ++ bsL ((moF how).toInt64) 1) ++ bsL 127 1) g264 (moV how ln) 5 e264 (by (try simp only [List.length_append, bs_len, List.length_nil]); omega) (by omega) (by omega)) (z_cV hN wd_1451 wd_67 wd_1448 hd_Mo_put rfl rfl ⟨Nat.le_of_ble_eq_true rfl, Nat.le_of_ble_eq_true rfl⟩ wd_1450 wd_55) (z_preVm (va_recv (ci := 13) (q0 := 2) hK hP rfl rfl) hPc hKc hN hDc) rfl rfl hl.1 rfl (lv_room (Nat.le_of_ble_eq_true rfl)) d_Mo_writeOrder_298 ⟨Nat.le_of_ble_eq_true rfl, Nat.le_of_ble_eq_true rfl⟩) hS (fun q _ h => hFc q h) hFc (fun g298 t H locs ht hvm e298 hB hz1 hk1 hS => ?_)
                          obtain ⟨hP1, hK1, hD1⟩ := hB
                          rw [ht] at hP1
                          obtain ⟨hP, hD⟩ := va_join (wr := [(r 1, .inl (cI, 9400, .inl tp)), (r 51, .inl (cI, 8192, .inl wr))]) (w1 := [(h, .inr (13, mO r 0 (nI T.length) le lv pg pn pl (nI ((((((((((((([] : List Int32) ++ bsL 0 1) ++ bsL 252 1) ++ bsL 0 2) ++ bsL 0 1) ++ bsL (541165879296 ||| (ln >>> ((33 : Int32).toInt64 &&& 63))) 5) ++ bsL 4294967295 4) ++ bsL 5 1) ++ bsL (nm.toInt64 &&& 4294967295) 4) ++ bsL (if how - how / 2 * 2 = 1 then 255 else 127) 1) ++ bsL ((moF how).toInt64) 1) ++ bsL 127 1) ++ bsL (moV how ln) 5).length))), (r 52, .inl (cI, 4200, .inl g298))]) hP hD [2, 3] [0, 1] rfl rfl (by decide) (by decide) hk1 hFc hP1 hD1
                          clear hk1 hP1 hD1 hFc hPc hDc hz1
                          have hP : va_P D classes [(r 1, .inl (cI, 9400, .inl tp)), (r 51, .inl (cI, 8192, .inl wr)), (h, .inr (13, mO r 0 (nI T.length) le lv pg pn pl (nI ((((((((((((([] : List Int32) ++ bsL 0 1) ++ bsL 252 1) ++ bsL 0 2) ++ bsL 0 1) ++ bsL (541165879296 ||| (ln >>> ((33 : Int32).toInt64 &&& 63))) 5) ++ bsL 4294967295 4) ++ bsL 5 1) ++ bsL (nm.toInt64 &&& 4294967295) 4) ++ bsL (if how - how / 2 * 2 = 1 then 255 else 127) 1) ++ bsL ((moF how).toInt64) 1) ++ bsL 127 1) ++ bsL (moV how ln) 5).length))), (r 52, .inl (cI, 4200, .inl g298))] H := hP
                          have hD : va_D A [(r 1, .inl (cI, 9400, .inl tp)), (r 51, .inl (cI, 8192, .inl wr)), (h, .inr (13, mO r 0 (nI T.length) le lv pg pn pl (nI ((((((((((((([] : List Int32) ++ bsL 0 1) ++ bsL 252 1) ++ bsL 0 2) ++ bsL 0 1) ++ bsL (541165879296 ||| (ln >>> ((33 : Int32).toInt64 &&& 63))) 5) ++ bsL 4294967295 4) ++ bsL 5 1) ++ bsL (nm.toInt64 &&& 4294967295) 4) ++ bsL (if how - how / 2 * 2 = 1 then 255 else 127) 1) ++ bsL ((moF how).toInt64) 1) ++ bsL 127 1) ++ bsL (moV how ln) 5).length))), (r 52, .inl (cI, 4200, .inl g298))] := hD
                          refine lv_aload_n hx hb d_Mo_writeOrder_301 rfl (lv_at hl 1 rfl) ?_
                          refine lv_ldc2 hx hb hown (hts _ wd_1414) d_Mo_writeOrder_302 ?_
                          refine lv_iconst (v := 4) hx hb d_Mo_writeOrder_305 (by decide) ?_
                          have hPc := hP.sub (ws' := [(h, .inr (13, mO r 0 (nI T.length) le lv pg pn pl (nI ((((((((((((([] : List Int32) ++ bsL 0 1) ++ bsL 252 1) ++ bsL 0 2) ++ bsL 0 1) ++ bsL (541165879296 ||| (ln >>> ((33 : Int32).toInt64 &&& 63))) 5) ++ bsL 4294967295 4) ++ bsL 5 1) ++ bsL (nm.toInt64 &&& 4294967295) 4) ++ bsL (if how - how / 2 * 2 = 1 then 255 else 127) 1) ++ bsL ((moF how).toInt64) 1) ++ bsL 127 1) ++ bsL (moV how ln) 5).length))), (r 52, .inl (cI, 4200, .inl g298))]) [2, 3] rfl
                          have hKc := hK.sub (tys' := [(cI, .int)]) [0] rfl
                          have hDc := hD.sub (ws' := [(h, .inr (13, mO r 0 (nI T.length) le lv pg pn pl (nI ((((((((((((([] : List Int32) ++ bsL 0 1) ++ bsL 252 1) ++ bsL 0 2) ++ bsL 0 1) ++ bsL (541165879296 ||| (ln >>> ((33 : Int32).toInt64 &&& 63))) 5) ++ bsL 4294967295 4) ++ bsL 5 1) ++ bsL (nm.toInt64 &&& 4294967295) 4) ++ bsL (if how - how / 2 * 2 = 1 then 255 else 127) 1) ++ bsL ((moF how).toInt64) 1) ++ bsL 127 1) ++ bsL (moV how ln) 5).length))), (r 52, .inl (cI, 4200, .inl g298))]) [2, 3] (by decide) rfl
                          have hFc := va_free (wc := [(h, .inr (13, mO r 0 (nI T.length) le lv pg pn pl (nI ((((((((((((([] : List Int32) ++ bsL 0 1) ++ bsL 252 1) ++ bsL 0 2) ++ bsL 0 1) ++ bsL (541165879296 ||| (ln >>> ((33 : Int32).toInt64 &&& 63))) 5) ++ bsL 4294967295 4) ++ bsL 5 1) ++ bsL (nm.toInt64 &&& 4294967295) 4) ++ bsL (if how - how / 2 * 2 = 1 then 255 else 127) 1) ++ bsL ((moF how).toInt64) 1) ++ bsL 127 1) ++ bsL (moV how ln) 5).length))), (r 52, .inl (cI, 4200, .inl g298))]) hD hS hA [2, 3] rfl
                          refine va_callv (va_runV (As := [.long 4294967295, .int (nI 4)]) (rest := []) ⟨hx, hb, hml, hown, hts⟩ (c_Mo_put l D H.size cI h r 0 (nI T.length) le lv pg pn pl ((((((((((((([] : List Int32) ++ bsL 0 1) ++ bsL 252 1) ++ bsL 0 2) ++ bsL 0 1) ++ bsL (541165879296 ||| (ln >>> ((33 : Int32).toInt64 &&& 63))) 5) ++ bsL 4294967295 4) ++ bsL 5 1) ++ bsL (nm.toInt64 &&& 4294967295) 4) ++ bsL (if how - how / 2 * 2 = 1 then 255 else 127) 1) ++ bsL ((moF how).toInt64) 1) ++ bsL 127 1) ++ bsL (moV how ln) 5) g298 4294967295 4 e298 (by (try simp only [List.length_append, bs_len, List.length_nil]); omega) (by omega) (by omega)) (z_cV hN wd_1451 wd_67 wd_1448 hd_Mo_put rfl rfl ⟨Nat.le_of_ble_eq_true rfl, Nat.le_of_ble_eq_true rfl⟩ wd_1450 wd_55) (z_preVm (va_recv (ci := 13) (q0 := 2) hK hP rfl rfl) hPc hKc hN hDc) rfl rfl hl.1 rfl (lv_room (Nat.le_of_ble_eq_true rfl)) d_Mo_writeOrder_306 ⟨Nat.le_of_ble_eq_true rfl, Nat.le_of_ble_eq_true rfl⟩) hS (fun q _ h => hFc q h) hFc (fun g306 t H locs ht hvm e306 hB hz1 hk1 hS => ?_)
                          obtain ⟨hP1, hK1, hD1⟩ := hB
                          rw [ht] at hP1
                          obtain ⟨hP, hD⟩ := va_join (wr := [(r 1, .inl (cI, 9400, .inl tp)), (r 51, .inl (cI, 8192, .inl wr))]) (w1 := [(h, .inr (13, mO r 0 (nI T.length) le lv pg pn pl (nI (((((((((((((([] : List Int32) ++ bsL 0 1) ++ bsL 252 1) ++ bsL 0 2) ++ bsL 0 1) ++ bsL (541165879296 ||| (ln >>> ((33 : Int32).toInt64 &&& 63))) 5) ++ bsL 4294967295 4) ++ bsL 5 1) ++ bsL (nm.toInt64 &&& 4294967295) 4) ++ bsL (if how - how / 2 * 2 = 1 then 255 else 127) 1) ++ bsL ((moF how).toInt64) 1) ++ bsL 127 1) ++ bsL (moV how ln) 5) ++ bsL 4294967295 4).length))), (r 52, .inl (cI, 4200, .inl g306))]) hP hD [2, 3] [0, 1] rfl rfl (by decide) (by decide) hk1 hFc hP1 hD1
                          clear hk1 hP1 hD1 hFc hPc hDc hz1
                          have hP : va_P D classes [(r 1, .inl (cI, 9400, .inl tp)), (r 51, .inl (cI, 8192, .inl wr)), (h, .inr (13, mO r 0 (nI T.length) le lv pg pn pl (nI (((((((((((((([] : List Int32) ++ bsL 0 1) ++ bsL 252 1) ++ bsL 0 2) ++ bsL 0 1) ++ bsL (541165879296 ||| (ln >>> ((33 : Int32).toInt64 &&& 63))) 5) ++ bsL 4294967295 4) ++ bsL 5 1) ++ bsL (nm.toInt64 &&& 4294967295) 4) ++ bsL (if how - how / 2 * 2 = 1 then 255 else 127) 1) ++ bsL ((moF how).toInt64) 1) ++ bsL 127 1) ++ bsL (moV how ln) 5) ++ bsL 4294967295 4).length))), (r 52, .inl (cI, 4200, .inl g306))] H := hP
                          have hD : va_D A [(r 1, .inl (cI, 9400, .inl tp)), (r 51, .inl (cI, 8192, .inl wr)), (h, .inr (13, mO r 0 (nI T.length) le lv pg pn pl (nI (((((((((((((([] : List Int32) ++ bsL 0 1) ++ bsL 252 1) ++ bsL 0 2) ++ bsL 0 1) ++ bsL (541165879296 ||| (ln >>> ((33 : Int32).toInt64 &&& 63))) 5) ++ bsL 4294967295 4) ++ bsL 5 1) ++ bsL (nm.toInt64 &&& 4294967295) 4) ++ bsL (if how - how / 2 * 2 = 1 then 255 else 127) 1) ++ bsL ((moF how).toInt64) 1) ++ bsL 127 1) ++ bsL (moV how ln) 5) ++ bsL 4294967295 4).length))), (r 52, .inl (cI, 4200, .inl g306))] := hD
                          have hle : ((((((((((((([] : List Int32) ++ bsL 0 1) ++ bsL 252 1) ++ bsL 0 2) ++ bsL 0 1) ++ bsL (541165879296 ||| (ln >>> ((33 : Int32).toInt64 &&& 63))) 5) ++ bsL 4294967295 4) ++ bsL 5 1) ++ bsL (nm.toInt64 &&& 4294967295) 4) ++ bsL (if how - how / 2 * 2 = 1 then 255 else 127) 1) ++ bsL ((moF how).toInt64) 1) ++ bsL 127 1) ++ bsL (moV how ln) 5) ++ bsL 4294967295 4 = moL nm how t0 ln := by unfold moL; first | (rw [if_neg h186]; rfl) | (rw [if_pos h186]; unfold moB moD; first | (rw [if_pos h231]; first | (rw [if_pos h273, List.append_nil]; rfl) | (rw [if_neg h273, List.append_nil, List.append_nil]; rfl)) | (rw [if_neg h231]; first | (rw [if_pos h237]; first | (rw [if_pos h273]; rfl) | (rw [if_neg h273, List.append_nil]; rfl)) | (rw [if_neg h237]; first | (rw [if_pos h273]; rfl) | (rw [if_neg h273, List.append_nil]; rfl))))
                          rw [hle] at hP hD e306
                          have hml2 := mo_len nm how t0 ln
                          refine lv_aload_n hx hb d_Mo_writeOrder_309 rfl (lv_at hl 1 rfl) ?_
                          refine lv_iconst (v := 3) hx hb d_Mo_writeOrder_310 (by decide) ?_
                          have hPc := hP.sub (ws' := [(h, .inr (13, mO r 0 (nI T.length) le lv pg pn pl (nI (moL nm how t0 ln).length))), (r 52, .inl (cI, 4200, .inl g306))]) [2, 3] rfl
                          have hKc := hK.sub (tys' := [(cI, .int)]) [0] rfl
                          have hDc := hD.sub (ws' := [(h, .inr (13, mO r 0 (nI T.length) le lv pg pn pl (nI (moL nm how t0 ln).length))), (r 52, .inl (cI, 4200, .inl g306))]) [2, 3] (by decide) rfl
                          have hFc := va_free (wc := [(h, .inr (13, mO r 0 (nI T.length) le lv pg pn pl (nI (moL nm how t0 ln).length))), (r 52, .inl (cI, 4200, .inl g306))]) hD hS hA [2, 3] rfl
                          refine va_callv (va_runV (As := [.int 3]) (rest := []) ⟨hx, hb, hml, hown, hts⟩ (c_Mo_sealRow l D H.size cI h r 0 (nI T.length) le lv pg pn pl (moL nm how t0 ln) g306 3 e306 hml2.1 hml2.2) (z_cV hN wd_1457 wd_67 wd_1454 hd_Mo_sealRow rfl rfl ⟨Nat.le_of_ble_eq_true rfl, Nat.le_of_ble_eq_true rfl⟩ wd_1456 wd_56) (z_preVm (va_recv (ci := 13) (q0 := 2) hK hP rfl rfl) hPc hKc hN hDc) rfl rfl hl.1 rfl (lv_room (Nat.le_of_ble_eq_true rfl)) d_Mo_writeOrder_311 ⟨Nat.le_of_ble_eq_true rfl, Nat.le_of_ble_eq_true rfl⟩) hS (fun q _ h => hFc q h) hFc (fun g311 t H locs ht hvm e311 hB hz1 hk1 hS => ?_)
                          obtain ⟨hP1, hK1, hD1⟩ := hB
                          rw [ht] at hP1
                          obtain ⟨hP, hD⟩ := va_join (wr := [(r 1, .inl (cI, 9400, .inl tp)), (r 51, .inl (cI, 8192, .inl wr))]) (w1 := [(h, .inr (13, mO r 0 (nI T.length) le lv pg pn pl (nI 184))), (r 52, .inl (cI, 4200, .inl g311))]) hP hD [2, 3] [0, 1] rfl rfl (by decide) (by decide) hk1 hFc hP1 hD1
                          clear hk1 hP1 hD1 hFc hPc hDc hz1
                          have hP : va_P D classes [(r 1, .inl (cI, 9400, .inl tp)), (r 51, .inl (cI, 8192, .inl wr)), (h, .inr (13, mO r 0 (nI T.length) le lv pg pn pl (nI 184))), (r 52, .inl (cI, 4200, .inl g311))] H := hP
                          have hD : va_D A [(r 1, .inl (cI, 9400, .inl tp)), (r 51, .inl (cI, 8192, .inl wr)), (h, .inr (13, mO r 0 (nI T.length) le lv pg pn pl (nI 184))), (r 52, .inl (cI, 4200, .inl g311))] := hD
                          have hs4 : (sealL 3 (moL nm how t0 ln)).length = 184 := sealL_len hml2.2
                          have hs5 : nI 184 = nI (sealL 3 (moL nm how t0 ln)).length := by rw [hs4]
                          rw [hs5] at hP hD
                          refine lv_aload_n hx hb d_Mo_writeOrder_314 rfl (lv_at hl 1 rfl) ?_
                          refine lv_iload_n hx hb d_Mo_writeOrder_315 rfl (lv_at hl 2 rfl) ?_
                          have hPc := hP.sub (ws' := [(h, .inr (13, mO r 0 (nI T.length) le lv pg pn pl (nI (sealL 3 (moL nm how t0 ln)).length))), (r 1, .inl (cI, 9400, .inl tp)), (r 51, .inl (cI, 8192, .inl wr)), (r 52, .inl (cI, 4200, .inl g311))]) [2, 0, 1, 3] rfl
                          have hKc := hK.sub (tys' := [(cI, .int)]) [0] rfl
                          have hDc := hD.sub (ws' := [(h, .inr (13, mO r 0 (nI T.length) le lv pg pn pl (nI (sealL 3 (moL nm how t0 ln)).length))), (r 1, .inl (cI, 9400, .inl tp)), (r 51, .inl (cI, 8192, .inl wr)), (r 52, .inl (cI, 4200, .inl g311))]) [2, 0, 1, 3] (by decide) rfl
                          have hFc := va_free (wc := [(h, .inr (13, mO r 0 (nI T.length) le lv pg pn pl (nI (sealL 3 (moL nm how t0 ln)).length))), (r 1, .inl (cI, 9400, .inl tp)), (r 51, .inl (cI, 8192, .inl wr)), (r 52, .inl (cI, 4200, .inl g311))]) hD hS hA [2, 0, 1, 3] rfl
                          refine va_callv (va_runV (As := [.int (nI i9)]) (rest := []) ⟨hx, hb, hml, hown, hts⟩ (c_Mo_writePackets l D H.size cI h r 0 le lv pg pn pl (sealL 3 (moL nm how t0 ln)) g311 T tp (wf i9) i9 wr e311 (by omega) htp (by rw [hs4]; omega) (by omega) (hwf _ (by omega)) (hwb _ (by omega))) (z_cV hN wd_1461 wd_67 wd_1458 hd_Mo_writePackets rfl rfl ⟨Nat.le_of_ble_eq_true rfl, Nat.le_of_ble_eq_true rfl⟩ wd_1460 wd_57) (z_preVm (va_recv (ci := 13) (q0 := 2) hK hP rfl rfl) hPc hKc hN hDc) rfl rfl hl.1 rfl (lv_room (Nat.le_of_ble_eq_true rfl)) d_Mo_writeOrder_316 ⟨Nat.le_of_ble_eq_true rfl, Nat.le_of_ble_eq_true rfl⟩) hS (fun q _ h => hFc q h) hFc (fun g316 t H locs ht hvm e316 hB hz1 hk1 hS => ?_)
                          obtain ⟨hP1, hK1, hD1⟩ := hB
                          rw [ht] at hP1
                          obtain ⟨hP, hD⟩ := va_join (wr := []) (w1 := [(h, .inr (13, mO r 0 (nI (T ++ ppL i9 (wf i9) (sealL 3 (moL nm how t0 ln)).length 0 (sealL 3 (moL nm how t0 ln))).length) le lv pg pn pl (nI (sealL 3 (moL nm how t0 ln)).length))), (r 1, .inl (cI, 9400, .inl g316)), (r 51, .inl (cI, 8192, .inl (upd wr i9 (nI ((wf i9) + ((sealL 3 (moL nm how t0 ln)).length + 183) / 184))))), (r 52, .inl (cI, 4200, .inl g311))]) hP hD [2, 0, 1, 3] [] rfl rfl (by decide) (by decide) hk1 hFc hP1 hD1
                          clear hk1 hP1 hD1 hFc hPc hDc hz1
                          have hP : va_P D classes [(h, .inr (13, mO r 0 (nI (T ++ ppL i9 (wf i9) (sealL 3 (moL nm how t0 ln)).length 0 (sealL 3 (moL nm how t0 ln))).length) le lv pg pn pl (nI (sealL 3 (moL nm how t0 ln)).length))), (r 1, .inl (cI, 9400, .inl g316)), (r 51, .inl (cI, 8192, .inl (upd wr i9 (nI ((wf i9) + ((sealL 3 (moL nm how t0 ln)).length + 183) / 184))))), (r 52, .inl (cI, 4200, .inl g311))] H := hP
                          have hD : va_D A [(h, .inr (13, mO r 0 (nI (T ++ ppL i9 (wf i9) (sealL 3 (moL nm how t0 ln)).length 0 (sealL 3 (moL nm how t0 ln))).length) le lv pg pn pl (nI (sealL 3 (moL nm how t0 ln)).length))), (r 1, .inl (cI, 9400, .inl g316)), (r 51, .inl (cI, 8192, .inl (upd wr i9 (nI ((wf i9) + ((sealL 3 (moL nm how t0 ln)).length + 183) / 184))))), (r 52, .inl (cI, 4200, .inl g311))] := hD
                          refine lv_aload_n hx hb d_Mo_writeOrder_319 rfl (lv_at hl 1 rfl) ?_
                          refine va_get (D := D) (ci := 13) (v := .int (nI (T ++ ppL i9 (wf i9) (sealL 3 (moL nm how t0 ln)).length 0 (sealL 3 (moL nm how t0 ln))).length)) (C := R_Mo) (T := F_Mo) (N := 54) hx hb hts i_Mo hown hK hP 0 rfl rfl 2 (by decide) (hts _ wd_1090) (fun _ h9 => h9) rfl d_Mo_writeOrder_320 ?_
                          have hP9 := hP.sub (ws' := [(h, .inr (13, mO r 0 (nI (T ++ ppL i9 (wf i9) (sealL 3 (moL nm how t0 ln)).length 0 (sealL 3 (moL nm how t0 ln))).length) le lv pg pn pl (nI (sealL 3 (moL nm how t0 ln)).length))), (r 1, .inl (cI, 9400, .inl g316)), (r 51, .inl (cI, 8192, .inl (upd wr i9 (nI ((wf i9) + ((sealL 3 (moL nm how t0 ln)).length + 183) / 184))))), (r 52, .inl (cI, 4200, .inl g311))]) [0, 1, 2, 3] rfl
                          have hD9 := hD.sub (ws' := [(h, .inr (13, mO r 0 (nI (T ++ ppL i9 (wf i9) (sealL 3 (moL nm how t0 ln)).length 0 (sealL 3 (moL nm how t0 ln))).length) le lv pg pn pl (nI (sealL 3 (moL nm how t0 ln)).length))), (r 1, .inl (cI, 9400, .inl g316)), (r 51, .inl (cI, 8192, .inl (upd wr i9 (nI ((wf i9) + ((sealL 3 (moL nm how t0 ln)).length + 183) / 184))))), (r 52, .inl (cI, 4200, .inl g311))]) [0, 1, 2, 3] (by decide) rfl
                          have hK9 := hK.sub (tys' := [(cI, .int)]) [0] rfl
                          exact W.iret (v := (nI (T ++ ppL i9 (wf i9) (sealL 3 (moL nm how t0 ln)).length 0 (sealL 3 (moL nm how t0 ln))).length)) hx hb hr (fun t ht hW => ⟨⟨_, (0, nI (T ++ ppL i9 (wf i9) (sealL 3 (moL nm how t0 ln)).length 0 (sealL 3 (moL nm how t0 ln))).length, nI (sealL 3 (moL nm how t0 ln)).length, g316, upd wr i9 (nI (wf i9 + ((sealL 3 (moL nm how t0 ln)).length + 183) / 184)), g311), rfl, Or.inr ⟨hbad, i9, rfl, hi9, Or.inr ⟨h69, ⟨rfl, e316, rfl, rfl, rfl⟩⟩⟩, ⟨by rw [ht]; exact hP9, va_K.moved hW.alike hK9, hD9⟩⟩, hS.F ht⟩) hS.2.2 d_Mo_writeOrder_323
                      · have h237 : 31 < how := Int32.not_le.mp h237
                        refine lv_aload_n hx hb d_Mo_writeOrder_240 rfl (lv_at hl 1 rfl) ?_
                        refine lv_ldc2 hx hb hown (hts _ wd_1481) d_Mo_writeOrder_241 ?_
                        refine lv_lload hx hb d_Mo_writeOrder_244 (lv_at hl 5 rfl) ?_
                        refine lv_lor hx hb d_Mo_writeOrder_246 ?_
                        refine lv_iconst (v := 5) hx hb d_Mo_writeOrder_247 (by decide) ?_
                        have hPc := hP.sub (ws' := [(h, .inr (13, mO r 0 (nI T.length) le lv pg pn pl (nI ((((((((((([] : List Int32) ++ bsL 0 1) ++ bsL 252 1) ++ bsL 0 2) ++ bsL 0 1) ++ bsL (541165879296 ||| (ln >>> ((33 : Int32).toInt64 &&& 63))) 5) ++ bsL 4294967295 4) ++ bsL 5 1) ++ bsL (nm.toInt64 &&& 4294967295) 4) ++ bsL (if how - how / 2 * 2 = 1 then 255 else 127) 1) ++ bsL ((moF how).toInt64) 1).length))), (r 52, .inl (cI, 4200, .inl g226))]) [2, 3] rfl
                        have hKc := hK.sub (tys' := [(cI, .int)]) [0] rfl
                        have hDc := hD.sub (ws' := [(h, .inr (13, mO r 0 (nI T.length) le lv pg pn pl (nI ((((((((((([] : List Int32) ++ bsL 0 1) ++ bsL 252 1) ++ bsL 0 2) ++ bsL 0 1) ++ bsL (541165879296 ||| (ln >>> ((33 : Int32).toInt64 &&& 63))) 5) ++ bsL 4294967295 4) ++ bsL 5 1) ++ bsL (nm.toInt64 &&& 4294967295) 4) ++ bsL (if how - how / 2 * 2 = 1 then 255 else 127) 1) ++ bsL ((moF how).toInt64) 1).length))), (r 52, .inl (cI, 4200, .inl g226))]) [2, 3] (by decide) rfl
                        have hFc := va_free (wc := [(h, .inr (13, mO r 0 (nI T.length) le lv pg pn pl (nI ((((((((((([] : List Int32) ++ bsL 0 1) ++ bsL 252 1) ++ bsL 0 2) ++ bsL 0 1) ++ bsL (541165879296 ||| (ln >>> ((33 : Int32).toInt64 &&& 63))) 5) ++ bsL 4294967295 4) ++ bsL 5 1) ++ bsL (nm.toInt64 &&& 4294967295) 4) ++ bsL (if how - how / 2 * 2 = 1 then 255 else 127) 1) ++ bsL ((moF how).toInt64) 1).length))), (r 52, .inl (cI, 4200, .inl g226))]) hD hS hA [2, 3] rfl
                        refine va_callv (va_runV (As := [.long (1090921693184 ||| t0), .int (nI 5)]) (rest := []) ⟨hx, hb, hml, hown, hts⟩ (c_Mo_put l D H.size cI h r 0 (nI T.length) le lv pg pn pl ((((((((((([] : List Int32) ++ bsL 0 1) ++ bsL 252 1) ++ bsL 0 2) ++ bsL 0 1) ++ bsL (541165879296 ||| (ln >>> ((33 : Int32).toInt64 &&& 63))) 5) ++ bsL 4294967295 4) ++ bsL 5 1) ++ bsL (nm.toInt64 &&& 4294967295) 4) ++ bsL (if how - how / 2 * 2 = 1 then 255 else 127) 1) ++ bsL ((moF how).toInt64) 1) g226 (1090921693184 ||| t0) 5 e226 (by (try simp only [List.length_append, bs_len, List.length_nil]); omega) (by omega) (by omega)) (z_cV hN wd_1451 wd_67 wd_1448 hd_Mo_put rfl rfl ⟨Nat.le_of_ble_eq_true rfl, Nat.le_of_ble_eq_true rfl⟩ wd_1450 wd_55) (z_preVm (va_recv (ci := 13) (q0 := 2) hK hP rfl rfl) hPc hKc hN hDc) rfl rfl hl.1 rfl (lv_room (Nat.le_of_ble_eq_true rfl)) d_Mo_writeOrder_248 ⟨Nat.le_of_ble_eq_true rfl, Nat.le_of_ble_eq_true rfl⟩) hS (fun q _ h => hFc q h) hFc (fun g248 t H locs ht hvm e248 hB hz1 hk1 hS => ?_)
                        obtain ⟨hP1, hK1, hD1⟩ := hB
                        rw [ht] at hP1
                        obtain ⟨hP, hD⟩ := va_join (wr := [(r 1, .inl (cI, 9400, .inl tp)), (r 51, .inl (cI, 8192, .inl wr))]) (w1 := [(h, .inr (13, mO r 0 (nI T.length) le lv pg pn pl (nI (((((((((((([] : List Int32) ++ bsL 0 1) ++ bsL 252 1) ++ bsL 0 2) ++ bsL 0 1) ++ bsL (541165879296 ||| (ln >>> ((33 : Int32).toInt64 &&& 63))) 5) ++ bsL 4294967295 4) ++ bsL 5 1) ++ bsL (nm.toInt64 &&& 4294967295) 4) ++ bsL (if how - how / 2 * 2 = 1 then 255 else 127) 1) ++ bsL ((moF how).toInt64) 1) ++ bsL (1090921693184 ||| t0) 5).length))), (r 52, .inl (cI, 4200, .inl g248))]) hP hD [2, 3] [0, 1] rfl rfl (by decide) (by decide) hk1 hFc hP1 hD1
                        clear hk1 hP1 hD1 hFc hPc hDc hz1
                        have hP : va_P D classes [(r 1, .inl (cI, 9400, .inl tp)), (r 51, .inl (cI, 8192, .inl wr)), (h, .inr (13, mO r 0 (nI T.length) le lv pg pn pl (nI (((((((((((([] : List Int32) ++ bsL 0 1) ++ bsL 252 1) ++ bsL 0 2) ++ bsL 0 1) ++ bsL (541165879296 ||| (ln >>> ((33 : Int32).toInt64 &&& 63))) 5) ++ bsL 4294967295 4) ++ bsL 5 1) ++ bsL (nm.toInt64 &&& 4294967295) 4) ++ bsL (if how - how / 2 * 2 = 1 then 255 else 127) 1) ++ bsL ((moF how).toInt64) 1) ++ bsL (1090921693184 ||| t0) 5).length))), (r 52, .inl (cI, 4200, .inl g248))] H := hP
                        have hD : va_D A [(r 1, .inl (cI, 9400, .inl tp)), (r 51, .inl (cI, 8192, .inl wr)), (h, .inr (13, mO r 0 (nI T.length) le lv pg pn pl (nI (((((((((((([] : List Int32) ++ bsL 0 1) ++ bsL 252 1) ++ bsL 0 2) ++ bsL 0 1) ++ bsL (541165879296 ||| (ln >>> ((33 : Int32).toInt64 &&& 63))) 5) ++ bsL 4294967295 4) ++ bsL 5 1) ++ bsL (nm.toInt64 &&& 4294967295) 4) ++ bsL (if how - how / 2 * 2 = 1 then 255 else 127) 1) ++ bsL ((moF how).toInt64) 1) ++ bsL (1090921693184 ||| t0) 5).length))), (r 52, .inl (cI, 4200, .inl g248))] := hD
                        refine lv_goto (tgt := 267) hx hb d_Mo_writeOrder_251 rfl ?_
                        refine lv_iload_n hx hb d_Mo_writeOrder_267 rfl (lv_at hl 4 rfl) ?_
                        refine lv_iconst (v := 3) hx hb d_Mo_writeOrder_268 (by decide) ?_
                        refine lv_ishr hx hb d_Mo_writeOrder_269 ?_
                        refine lv_iconst (v := 1) hx hb d_Mo_writeOrder_270 (by decide) ?_
                        refine lv_iand hx hb d_Mo_writeOrder_271 ?_
                        refine lv_iconst (v := 1) hx hb d_Mo_writeOrder_272 (by decide) ?_
                        refine lv_icmp_ne (tgt := 301) hx hb d_Mo_writeOrder_273 rfl (fun h273 => ?_) (fun h273 => ?_)
                        · have h273 := h273
                          refine lv_aload_n hx hb d_Mo_writeOrder_301 rfl (lv_at hl 1 rfl) ?_
                          refine lv_ldc2 hx hb hown (hts _ wd_1414) d_Mo_writeOrder_302 ?_
                          refine lv_iconst (v := 4) hx hb d_Mo_writeOrder_305 (by decide) ?_
                          have hPc := hP.sub (ws' := [(h, .inr (13, mO r 0 (nI T.length) le lv pg pn pl (nI (((((((((((([] : List Int32) ++ bsL 0 1) ++ bsL 252 1) ++ bsL 0 2) ++ bsL 0 1) ++ bsL (541165879296 ||| (ln >>> ((33 : Int32).toInt64 &&& 63))) 5) ++ bsL 4294967295 4) ++ bsL 5 1) ++ bsL (nm.toInt64 &&& 4294967295) 4) ++ bsL (if how - how / 2 * 2 = 1 then 255 else 127) 1) ++ bsL ((moF how).toInt64) 1) ++ bsL (1090921693184 ||| t0) 5).length))), (r 52, .inl (cI, 4200, .inl g248))]) [2, 3] rfl
                          have hKc := hK.sub (tys' := [(cI, .int)]) [0] rfl
                          have hDc := hD.sub (ws' := [(h, .inr (13, mO r 0 (nI T.length) le lv pg pn pl (nI (((((((((((([] : List Int32) ++ bsL 0 1) ++ bsL 252 1) ++ bsL 0 2) ++ bsL 0 1) ++ bsL (541165879296 ||| (ln >>> ((33 : Int32).toInt64 &&& 63))) 5) ++ bsL 4294967295 4) ++ bsL 5 1) ++ bsL (nm.toInt64 &&& 4294967295) 4) ++ bsL (if how - how / 2 * 2 = 1 then 255 else 127) 1) ++ bsL ((moF how).toInt64) 1) ++ bsL (1090921693184 ||| t0) 5).length))), (r 52, .inl (cI, 4200, .inl g248))]) [2, 3] (by decide) rfl
                          have hFc := va_free (wc := [(h, .inr (13, mO r 0 (nI T.length) le lv pg pn pl (nI (((((((((((([] : List Int32) ++ bsL 0 1) ++ bsL 252 1) ++ bsL 0 2) ++ bsL 0 1) ++ bsL (541165879296 ||| (ln >>> ((33 : Int32).toInt64 &&& 63))) 5) ++ bsL 4294967295 4) ++ bsL 5 1) ++ bsL (nm.toInt64 &&& 4294967295) 4) ++ bsL (if how - how / 2 * 2 = 1 then 255 else 127) 1) ++ bsL ((moF how).toInt64) 1) ++ bsL (1090921693184 ||| t0) 5).length))), (r 52, .inl (cI, 4200, .inl g248))]) hD hS hA [2, 3] rfl
                          refine va_callv (va_runV (As := [.long 4294967295, .int (nI 4)]) (rest := []) ⟨hx, hb, hml, hown, hts⟩ (c_Mo_put l D H.size cI h r 0 (nI T.length) le lv pg pn pl (((((((((((([] : List Int32) ++ bsL 0 1) ++ bsL 252 1) ++ bsL 0 2) ++ bsL 0 1) ++ bsL (541165879296 ||| (ln >>> ((33 : Int32).toInt64 &&& 63))) 5) ++ bsL 4294967295 4) ++ bsL 5 1) ++ bsL (nm.toInt64 &&& 4294967295) 4) ++ bsL (if how - how / 2 * 2 = 1 then 255 else 127) 1) ++ bsL ((moF how).toInt64) 1) ++ bsL (1090921693184 ||| t0) 5) g248 4294967295 4 e248 (by (try simp only [List.length_append, bs_len, List.length_nil]); omega) (by omega) (by omega)) (z_cV hN wd_1451 wd_67 wd_1448 hd_Mo_put rfl rfl ⟨Nat.le_of_ble_eq_true rfl, Nat.le_of_ble_eq_true rfl⟩ wd_1450 wd_55) (z_preVm (va_recv (ci := 13) (q0 := 2) hK hP rfl rfl) hPc hKc hN hDc) rfl rfl hl.1 rfl (lv_room (Nat.le_of_ble_eq_true rfl)) d_Mo_writeOrder_306 ⟨Nat.le_of_ble_eq_true rfl, Nat.le_of_ble_eq_true rfl⟩) hS (fun q _ h => hFc q h) hFc (fun g306 t H locs ht hvm e306 hB hz1 hk1 hS => ?_)
                          obtain ⟨hP1, hK1, hD1⟩ := hB
                          rw [ht] at hP1
                          obtain ⟨hP, hD⟩ := va_join (wr := [(r 1, .inl (cI, 9400, .inl tp)), (r 51, .inl (cI, 8192, .inl wr))]) (w1 := [(h, .inr (13, mO r 0 (nI T.length) le lv pg pn pl (nI ((((((((((((([] : List Int32) ++ bsL 0 1) ++ bsL 252 1) ++ bsL 0 2) ++ bsL 0 1) ++ bsL (541165879296 ||| (ln >>> ((33 : Int32).toInt64 &&& 63))) 5) ++ bsL 4294967295 4) ++ bsL 5 1) ++ bsL (nm.toInt64 &&& 4294967295) 4) ++ bsL (if how - how / 2 * 2 = 1 then 255 else 127) 1) ++ bsL ((moF how).toInt64) 1) ++ bsL (1090921693184 ||| t0) 5) ++ bsL 4294967295 4).length))), (r 52, .inl (cI, 4200, .inl g306))]) hP hD [2, 3] [0, 1] rfl rfl (by decide) (by decide) hk1 hFc hP1 hD1
                          clear hk1 hP1 hD1 hFc hPc hDc hz1
                          have hP : va_P D classes [(r 1, .inl (cI, 9400, .inl tp)), (r 51, .inl (cI, 8192, .inl wr)), (h, .inr (13, mO r 0 (nI T.length) le lv pg pn pl (nI ((((((((((((([] : List Int32) ++ bsL 0 1) ++ bsL 252 1) ++ bsL 0 2) ++ bsL 0 1) ++ bsL (541165879296 ||| (ln >>> ((33 : Int32).toInt64 &&& 63))) 5) ++ bsL 4294967295 4) ++ bsL 5 1) ++ bsL (nm.toInt64 &&& 4294967295) 4) ++ bsL (if how - how / 2 * 2 = 1 then 255 else 127) 1) ++ bsL ((moF how).toInt64) 1) ++ bsL (1090921693184 ||| t0) 5) ++ bsL 4294967295 4).length))), (r 52, .inl (cI, 4200, .inl g306))] H := hP
                          have hD : va_D A [(r 1, .inl (cI, 9400, .inl tp)), (r 51, .inl (cI, 8192, .inl wr)), (h, .inr (13, mO r 0 (nI T.length) le lv pg pn pl (nI ((((((((((((([] : List Int32) ++ bsL 0 1) ++ bsL 252 1) ++ bsL 0 2) ++ bsL 0 1) ++ bsL (541165879296 ||| (ln >>> ((33 : Int32).toInt64 &&& 63))) 5) ++ bsL 4294967295 4) ++ bsL 5 1) ++ bsL (nm.toInt64 &&& 4294967295) 4) ++ bsL (if how - how / 2 * 2 = 1 then 255 else 127) 1) ++ bsL ((moF how).toInt64) 1) ++ bsL (1090921693184 ||| t0) 5) ++ bsL 4294967295 4).length))), (r 52, .inl (cI, 4200, .inl g306))] := hD
                          have hle : (((((((((((([] : List Int32) ++ bsL 0 1) ++ bsL 252 1) ++ bsL 0 2) ++ bsL 0 1) ++ bsL (541165879296 ||| (ln >>> ((33 : Int32).toInt64 &&& 63))) 5) ++ bsL 4294967295 4) ++ bsL 5 1) ++ bsL (nm.toInt64 &&& 4294967295) 4) ++ bsL (if how - how / 2 * 2 = 1 then 255 else 127) 1) ++ bsL ((moF how).toInt64) 1) ++ bsL (1090921693184 ||| t0) 5) ++ bsL 4294967295 4 = moL nm how t0 ln := by unfold moL; first | (rw [if_neg h186]; rfl) | (rw [if_pos h186]; unfold moB moD; first | (rw [if_pos h231]; first | (rw [if_pos h273, List.append_nil]; rfl) | (rw [if_neg h273, List.append_nil, List.append_nil]; rfl)) | (rw [if_neg h231]; first | (rw [if_pos h237]; first | (rw [if_pos h273]; rfl) | (rw [if_neg h273, List.append_nil]; rfl)) | (rw [if_neg h237]; first | (rw [if_pos h273]; rfl) | (rw [if_neg h273, List.append_nil]; rfl))))
                          rw [hle] at hP hD e306
                          have hml2 := mo_len nm how t0 ln
                          refine lv_aload_n hx hb d_Mo_writeOrder_309 rfl (lv_at hl 1 rfl) ?_
                          refine lv_iconst (v := 3) hx hb d_Mo_writeOrder_310 (by decide) ?_
                          have hPc := hP.sub (ws' := [(h, .inr (13, mO r 0 (nI T.length) le lv pg pn pl (nI (moL nm how t0 ln).length))), (r 52, .inl (cI, 4200, .inl g306))]) [2, 3] rfl
                          have hKc := hK.sub (tys' := [(cI, .int)]) [0] rfl
                          have hDc := hD.sub (ws' := [(h, .inr (13, mO r 0 (nI T.length) le lv pg pn pl (nI (moL nm how t0 ln).length))), (r 52, .inl (cI, 4200, .inl g306))]) [2, 3] (by decide) rfl
                          have hFc := va_free (wc := [(h, .inr (13, mO r 0 (nI T.length) le lv pg pn pl (nI (moL nm how t0 ln).length))), (r 52, .inl (cI, 4200, .inl g306))]) hD hS hA [2, 3] rfl
                          refine va_callv (va_runV (As := [.int 3]) (rest := []) ⟨hx, hb, hml, hown, hts⟩ (c_Mo_sealRow l D H.size cI h r 0 (nI T.length) le lv pg pn pl (moL nm how t0 ln) g306 3 e306 hml2.1 hml2.2) (z_cV hN wd_1457 wd_67 wd_1454 hd_Mo_sealRow rfl rfl ⟨Nat.le_of_ble_eq_true rfl, Nat.le_of_ble_eq_true rfl⟩ wd_1456 wd_56) (z_preVm (va_recv (ci := 13) (q0 := 2) hK hP rfl rfl) hPc hKc hN hDc) rfl rfl hl.1 rfl (lv_room (Nat.le_of_ble_eq_true rfl)) d_Mo_writeOrder_311 ⟨Nat.le_of_ble_eq_true rfl, Nat.le_of_ble_eq_true rfl⟩) hS (fun q _ h => hFc q h) hFc (fun g311 t H locs ht hvm e311 hB hz1 hk1 hS => ?_)
                          obtain ⟨hP1, hK1, hD1⟩ := hB
                          rw [ht] at hP1
                          obtain ⟨hP, hD⟩ := va_join (wr := [(r 1, .inl (cI, 9400, .inl tp)), (r 51, .inl (cI, 8192, .inl wr))]) (w1 := [(h, .inr (13, mO r 0 (nI T.length) le lv pg pn pl (nI 184))), (r 52, .inl (cI, 4200, .inl g311))]) hP hD [2, 3] [0, 1] rfl rfl (by decide) (by decide) hk1 hFc hP1 hD1
                          clear hk1 hP1 hD1 hFc hPc hDc hz1
                          have hP : va_P D classes [(r 1, .inl (cI, 9400, .inl tp)), (r 51, .inl (cI, 8192, .inl wr)), (h, .inr (13, mO r 0 (nI T.length) le lv pg pn pl (nI 184))), (r 52, .inl (cI, 4200, .inl g311))] H := hP
                          have hD : va_D A [(r 1, .inl (cI, 9400, .inl tp)), (r 51, .inl (cI, 8192, .inl wr)), (h, .inr (13, mO r 0 (nI T.length) le lv pg pn pl (nI 184))), (r 52, .inl (cI, 4200, .inl g311))] := hD
                          have hs4 : (sealL 3 (moL nm how t0 ln)).length = 184 := sealL_len hml2.2
                          have hs5 : nI 184 = nI (sealL 3 (moL nm how t0 ln)).length := by rw [hs4]
                          rw [hs5] at hP hD
                          refine lv_aload_n hx hb d_Mo_writeOrder_314 rfl (lv_at hl 1 rfl) ?_
                          refine lv_iload_n hx hb d_Mo_writeOrder_315 rfl (lv_at hl 2 rfl) ?_
                          have hPc := hP.sub (ws' := [(h, .inr (13, mO r 0 (nI T.length) le lv pg pn pl (nI (sealL 3 (moL nm how t0 ln)).length))), (r 1, .inl (cI, 9400, .inl tp)), (r 51, .inl (cI, 8192, .inl wr)), (r 52, .inl (cI, 4200, .inl g311))]) [2, 0, 1, 3] rfl
                          have hKc := hK.sub (tys' := [(cI, .int)]) [0] rfl
                          have hDc := hD.sub (ws' := [(h, .inr (13, mO r 0 (nI T.length) le lv pg pn pl (nI (sealL 3 (moL nm how t0 ln)).length))), (r 1, .inl (cI, 9400, .inl tp)), (r 51, .inl (cI, 8192, .inl wr)), (r 52, .inl (cI, 4200, .inl g311))]) [2, 0, 1, 3] (by decide) rfl
                          have hFc := va_free (wc := [(h, .inr (13, mO r 0 (nI T.length) le lv pg pn pl (nI (sealL 3 (moL nm how t0 ln)).length))), (r 1, .inl (cI, 9400, .inl tp)), (r 51, .inl (cI, 8192, .inl wr)), (r 52, .inl (cI, 4200, .inl g311))]) hD hS hA [2, 0, 1, 3] rfl
                          refine va_callv (va_runV (As := [.int (nI i9)]) (rest := []) ⟨hx, hb, hml, hown, hts⟩ (c_Mo_writePackets l D H.size cI h r 0 le lv pg pn pl (sealL 3 (moL nm how t0 ln)) g311 T tp (wf i9) i9 wr e311 (by omega) htp (by rw [hs4]; omega) (by omega) (hwf _ (by omega)) (hwb _ (by omega))) (z_cV hN wd_1461 wd_67 wd_1458 hd_Mo_writePackets rfl rfl ⟨Nat.le_of_ble_eq_true rfl, Nat.le_of_ble_eq_true rfl⟩ wd_1460 wd_57) (z_preVm (va_recv (ci := 13) (q0 := 2) hK hP rfl rfl) hPc hKc hN hDc) rfl rfl hl.1 rfl (lv_room (Nat.le_of_ble_eq_true rfl)) d_Mo_writeOrder_316 ⟨Nat.le_of_ble_eq_true rfl, Nat.le_of_ble_eq_true rfl⟩) hS (fun q _ h => hFc q h) hFc (fun g316 t H locs ht hvm e316 hB hz1 hk1 hS => ?_)
                          obtain ⟨hP1, hK1, hD1⟩ := hB
                          rw [ht] at hP1
                          obtain ⟨hP, hD⟩ := va_join (wr := []) (w1 := [(h, .inr (13, mO r 0 (nI (T ++ ppL i9 (wf i9) (sealL 3 (moL nm how t0 ln)).length 0 (sealL 3 (moL nm how t0 ln))).length) le lv pg pn pl (nI (sealL 3 (moL nm how t0 ln)).length))), (r 1, .inl (cI, 9400, .inl g316)), (r 51, .inl (cI, 8192, .inl (upd wr i9 (nI ((wf i9) + ((sealL 3 (moL nm how t0 ln)).length + 183) / 184))))), (r 52, .inl (cI, 4200, .inl g311))]) hP hD [2, 0, 1, 3] [] rfl rfl (by decide) (by decide) hk1 hFc hP1 hD1
                          clear hk1 hP1 hD1 hFc hPc hDc hz1
                          have hP : va_P D classes [(h, .inr (13, mO r 0 (nI (T ++ ppL i9 (wf i9) (sealL 3 (moL nm how t0 ln)).length 0 (sealL 3 (moL nm how t0 ln))).length) le lv pg pn pl (nI (sealL 3 (moL nm how t0 ln)).length))), (r 1, .inl (cI, 9400, .inl g316)), (r 51, .inl (cI, 8192, .inl (upd wr i9 (nI ((wf i9) + ((sealL 3 (moL nm how t0 ln)).length + 183) / 184))))), (r 52, .inl (cI, 4200, .inl g311))] H := hP
                          have hD : va_D A [(h, .inr (13, mO r 0 (nI (T ++ ppL i9 (wf i9) (sealL 3 (moL nm how t0 ln)).length 0 (sealL 3 (moL nm how t0 ln))).length) le lv pg pn pl (nI (sealL 3 (moL nm how t0 ln)).length))), (r 1, .inl (cI, 9400, .inl g316)), (r 51, .inl (cI, 8192, .inl (upd wr i9 (nI ((wf i9) + ((sealL 3 (moL nm how t0 ln)).length + 183) / 184))))), (r 52, .inl (cI, 4200, .inl g311))] := hD
                          refine lv_aload_n hx hb d_Mo_writeOrder_319 rfl (lv_at hl 1 rfl) ?_
                          refine va_get (D := D) (ci := 13) (v := .int (nI (T ++ ppL i9 (wf i9) (sealL 3 (moL nm how t0 ln)).length 0 (sealL 3 (moL nm how t0 ln))).length)) (C := R_Mo) (T := F_Mo) (N := 54) hx hb hts i_Mo hown hK hP 0 rfl rfl 2 (by decide) (hts _ wd_1090) (fun _ h9 => h9) rfl d_Mo_writeOrder_320 ?_
                          have hP9 := hP.sub (ws' := [(h, .inr (13, mO r 0 (nI (T ++ ppL i9 (wf i9) (sealL 3 (moL nm how t0 ln)).length 0 (sealL 3 (moL nm how t0 ln))).length) le lv pg pn pl (nI (sealL 3 (moL nm how t0 ln)).length))), (r 1, .inl (cI, 9400, .inl g316)), (r 51, .inl (cI, 8192, .inl (upd wr i9 (nI ((wf i9) + ((sealL 3 (moL nm how t0 ln)).length + 183) / 184))))), (r 52, .inl (cI, 4200, .inl g311))]) [0, 1, 2, 3] rfl
                          have hD9 := hD.sub (ws' := [(h, .inr (13, mO r 0 (nI (T ++ ppL i9 (wf i9) (sealL 3 (moL nm how t0 ln)).length 0 (sealL 3 (moL nm how t0 ln))).length) le lv pg pn pl (nI (sealL 3 (moL nm how t0 ln)).length))), (r 1, .inl (cI, 9400, .inl g316)), (r 51, .inl (cI, 8192, .inl (upd wr i9 (nI ((wf i9) + ((sealL 3 (moL nm how t0 ln)).length + 183) / 184))))), (r 52, .inl (cI, 4200, .inl g311))]) [0, 1, 2, 3] (by decide) rfl
                          have hK9 := hK.sub (tys' := [(cI, .int)]) [0] rfl
                          exact W.iret (v := (nI (T ++ ppL i9 (wf i9) (sealL 3 (moL nm how t0 ln)).length 0 (sealL 3 (moL nm how t0 ln))).length)) hx hb hr (fun t ht hW => ⟨⟨_, (0, nI (T ++ ppL i9 (wf i9) (sealL 3 (moL nm how t0 ln)).length 0 (sealL 3 (moL nm how t0 ln))).length, nI (sealL 3 (moL nm how t0 ln)).length, g316, upd wr i9 (nI (wf i9 + ((sealL 3 (moL nm how t0 ln)).length + 183) / 184)), g311), rfl, Or.inr ⟨hbad, i9, rfl, hi9, Or.inr ⟨h69, ⟨rfl, e316, rfl, rfl, rfl⟩⟩⟩, ⟨by rw [ht]; exact hP9, va_K.moved hW.alike hK9, hD9⟩⟩, hS.F ht⟩) hS.2.2 d_Mo_writeOrder_323
                        · refine lv_aload_n hx hb d_Mo_writeOrder_276 rfl (lv_at hl 1 rfl) ?_
                          refine lv_iload_n hx hb d_Mo_writeOrder_277 rfl (lv_at hl 4 rfl) ?_
                          refine lv_iconst (v := 4) hx hb d_Mo_writeOrder_278 (by decide) ?_
                          refine lv_ishr hx hb d_Mo_writeOrder_279 ?_
                          refine lv_i2l (v := (how >>> (4 &&& 31)).toInt64) hx hb d_Mo_writeOrder_280 rfl ?_
                          refine lv_lconst (v := 1) hx hb d_Mo_writeOrder_281 (by decide) ?_
                          refine lv_land hx hb d_Mo_writeOrder_282 ?_
                          refine lv_bipush (v := 39) hx hb d_Mo_writeOrder_283 (by decide) ?_
                          refine lv_lshl (v := (((how >>> (4 &&& 31)).toInt64) &&& 1) <<< ((39 : Int32).toInt64 &&& 63)) hx hb d_Mo_writeOrder_285 rfl ?_
                          refine lv_ldc2 hx hb hown (hts _ wd_1478) d_Mo_writeOrder_286 ?_
                          refine lv_lor hx hb d_Mo_writeOrder_289 ?_
                          refine lv_lload hx hb d_Mo_writeOrder_290 (lv_at hl 6 rfl) ?_
                          refine lv_ldc2 hx hb hown (hts _ wd_1482) d_Mo_writeOrder_292 ?_
                          refine lv_land hx hb d_Mo_writeOrder_295 ?_
                          refine lv_lor hx hb d_Mo_writeOrder_296 ?_
                          refine z_topl (w := moV how ln) rfl ?_
                          refine lv_iconst (v := 5) hx hb d_Mo_writeOrder_297 (by decide) ?_
                          have hPc := hP.sub (ws' := [(h, .inr (13, mO r 0 (nI T.length) le lv pg pn pl (nI (((((((((((([] : List Int32) ++ bsL 0 1) ++ bsL 252 1) ++ bsL 0 2) ++ bsL 0 1) ++ bsL (541165879296 ||| (ln >>> ((33 : Int32).toInt64 &&& 63))) 5) ++ bsL 4294967295 4) ++ bsL 5 1) ++ bsL (nm.toInt64 &&& 4294967295) 4) ++ bsL (if how - how / 2 * 2 = 1 then 255 else 127) 1) ++ bsL ((moF how).toInt64) 1) ++ bsL (1090921693184 ||| t0) 5).length))), (r 52, .inl (cI, 4200, .inl g248))]) [2, 3] rfl
                          have hKc := hK.sub (tys' := [(cI, .int)]) [0] rfl
                          have hDc := hD.sub (ws' := [(h, .inr (13, mO r 0 (nI T.length) le lv pg pn pl (nI (((((((((((([] : List Int32) ++ bsL 0 1) ++ bsL 252 1) ++ bsL 0 2) ++ bsL 0 1) ++ bsL (541165879296 ||| (ln >>> ((33 : Int32).toInt64 &&& 63))) 5) ++ bsL 4294967295 4) ++ bsL 5 1) ++ bsL (nm.toInt64 &&& 4294967295) 4) ++ bsL (if how - how / 2 * 2 = 1 then 255 else 127) 1) ++ bsL ((moF how).toInt64) 1) ++ bsL (1090921693184 ||| t0) 5).length))), (r 52, .inl (cI, 4200, .inl g248))]) [2, 3] (by decide) rfl
                          have hFc := va_free (wc := [(h, .inr (13, mO r 0 (nI T.length) le lv pg pn pl (nI (((((((((((([] : List Int32) ++ bsL 0 1) ++ bsL 252 1) ++ bsL 0 2) ++ bsL 0 1) ++ bsL (541165879296 ||| (ln >>> ((33 : Int32).toInt64 &&& 63))) 5) ++ bsL 4294967295 4) ++ bsL 5 1) ++ bsL (nm.toInt64 &&& 4294967295) 4) ++ bsL (if how - how / 2 * 2 = 1 then 255 else 127) 1) ++ bsL ((moF how).toInt64) 1) ++ bsL (1090921693184 ||| t0) 5).length))), (r 52, .inl (cI, 4200, .inl g248))]) hD hS hA [2, 3] rfl
                          refine va_callv (va_runV (As := [.long (moV how ln), .int (nI 5)]) (rest := []) ⟨hx, hb, hml, hown, hts⟩ (c_Mo_put l D H.size cI h r 0 (nI T.length) le lv pg pn pl (((((((((((([] : List Int32) ++ bsL 0 1) ++ bsL 252 1) ++ bsL 0 2) ++ bsL 0 1) ++ bsL (541165879296 ||| (ln >>> ((33 : Int32).toInt64 &&& 63))) 5) ++ bsL 4294967295 4) ++ bsL 5 1) ++ bsL (nm.toInt64 &&& 4294967295) 4) ++ bsL (if how - how / 2 * 2 = 1 then 255 else 127) 1) ++ bsL ((moF how).toInt64) 1) ++ bsL (1090921693184 ||| t0) 5) g248 (moV how ln) 5 e248 (by (try simp only [List.length_append, bs_len, List.length_nil]); omega) (by omega) (by omega)) (z_cV hN wd_1451 wd_67 wd_1448 hd_Mo_put rfl rfl ⟨Nat.le_of_ble_eq_true rfl, Nat.le_of_ble_eq_true rfl⟩ wd_1450 wd_55) (z_preVm (va_recv (ci := 13) (q0 := 2) hK hP rfl rfl) hPc hKc hN hDc) rfl rfl hl.1 rfl (lv_room (Nat.le_of_ble_eq_true rfl)) d_Mo_writeOrder_298 ⟨Nat.le_of_ble_eq_true rfl, Nat.le_of_ble_eq_true rfl⟩) hS (fun q _ h => hFc q h) hFc (fun g298 t H locs ht hvm e298 hB hz1 hk1 hS => ?_)
                          obtain ⟨hP1, hK1, hD1⟩ := hB
                          rw [ht] at hP1
                          obtain ⟨hP, hD⟩ := va_join (wr := [(r 1, .inl (cI, 9400, .inl tp)), (r 51, .inl (cI, 8192, .inl wr))]) (w1 := [(h, .inr (13, mO r 0 (nI T.length) le lv pg pn pl (nI ((((((((((((([] : List Int32) ++ bsL 0 1) ++ bsL 252 1) ++ bsL 0 2) ++ bsL 0 1) ++ bsL (541165879296 ||| (ln >>> ((33 : Int32).toInt64 &&& 63))) 5) ++ bsL 4294967295 4) ++ bsL 5 1) ++ bsL (nm.toInt64 &&& 4294967295) 4) ++ bsL (if how - how / 2 * 2 = 1 then 255 else 127) 1) ++ bsL ((moF how).toInt64) 1) ++ bsL (1090921693184 ||| t0) 5) ++ bsL (moV how ln) 5).length))), (r 52, .inl (cI, 4200, .inl g298))]) hP hD [2, 3] [0, 1] rfl rfl (by decide) (by decide) hk1 hFc hP1 hD1
                          clear hk1 hP1 hD1 hFc hPc hDc hz1
                          have hP : va_P D classes [(r 1, .inl (cI, 9400, .inl tp)), (r 51, .inl (cI, 8192, .inl wr)), (h, .inr (13, mO r 0 (nI T.length) le lv pg pn pl (nI ((((((((((((([] : List Int32) ++ bsL 0 1) ++ bsL 252 1) ++ bsL 0 2) ++ bsL 0 1) ++ bsL (541165879296 ||| (ln >>> ((33 : Int32).toInt64 &&& 63))) 5) ++ bsL 4294967295 4) ++ bsL 5 1) ++ bsL (nm.toInt64 &&& 4294967295) 4) ++ bsL (if how - how / 2 * 2 = 1 then 255 else 127) 1) ++ bsL ((moF how).toInt64) 1) ++ bsL (1090921693184 ||| t0) 5) ++ bsL (moV how ln) 5).length))), (r 52, .inl (cI, 4200, .inl g298))] H := hP
                          have hD : va_D A [(r 1, .inl (cI, 9400, .inl tp)), (r 51, .inl (cI, 8192, .inl wr)), (h, .inr (13, mO r 0 (nI T.length) le lv pg pn pl (nI ((((((((((((([] : List Int32) ++ bsL 0 1) ++ bsL 252 1) ++ bsL 0 2) ++ bsL 0 1) ++ bsL (541165879296 ||| (ln >>> ((33 : Int32).toInt64 &&& 63))) 5) ++ bsL 4294967295 4) ++ bsL 5 1) ++ bsL (nm.toInt64 &&& 4294967295) 4) ++ bsL (if how - how / 2 * 2 = 1 then 255 else 127) 1) ++ bsL ((moF how).toInt64) 1) ++ bsL (1090921693184 ||| t0) 5) ++ bsL (moV how ln) 5).length))), (r 52, .inl (cI, 4200, .inl g298))] := hD
                          refine lv_aload_n hx hb d_Mo_writeOrder_301 rfl (lv_at hl 1 rfl) ?_
                          refine lv_ldc2 hx hb hown (hts _ wd_1414) d_Mo_writeOrder_302 ?_
                          refine lv_iconst (v := 4) hx hb d_Mo_writeOrder_305 (by decide) ?_
                          have hPc := hP.sub (ws' := [(h, .inr (13, mO r 0 (nI T.length) le lv pg pn pl (nI ((((((((((((([] : List Int32) ++ bsL 0 1) ++ bsL 252 1) ++ bsL 0 2) ++ bsL 0 1) ++ bsL (541165879296 ||| (ln >>> ((33 : Int32).toInt64 &&& 63))) 5) ++ bsL 4294967295 4) ++ bsL 5 1) ++ bsL (nm.toInt64 &&& 4294967295) 4) ++ bsL (if how - how / 2 * 2 = 1 then 255 else 127) 1) ++ bsL ((moF how).toInt64) 1) ++ bsL (1090921693184 ||| t0) 5) ++ bsL (moV how ln) 5).length))), (r 52, .inl (cI, 4200, .inl g298))]) [2, 3] rfl
                          have hKc := hK.sub (tys' := [(cI, .int)]) [0] rfl
                          have hDc := hD.sub (ws' := [(h, .inr (13, mO r 0 (nI T.length) le lv pg pn pl (nI ((((((((((((([] : List Int32) ++ bsL 0 1) ++ bsL 252 1) ++ bsL 0 2) ++ bsL 0 1) ++ bsL (541165879296 ||| (ln >>> ((33 : Int32).toInt64 &&& 63))) 5) ++ bsL 4294967295 4) ++ bsL 5 1) ++ bsL (nm.toInt64 &&& 4294967295) 4) ++ bsL (if how - how / 2 * 2 = 1 then 255 else 127) 1) ++ bsL ((moF how).toInt64) 1) ++ bsL (1090921693184 ||| t0) 5) ++ bsL (moV how ln) 5).length))), (r 52, .inl (cI, 4200, .inl g298))]) [2, 3] (by decide) rfl
                          have hFc := va_free (wc := [(h, .inr (13, mO r 0 (nI T.length) le lv pg pn pl (nI ((((((((((((([] : List Int32) ++ bsL 0 1) ++ bsL 252 1) ++ bsL 0 2) ++ bsL 0 1) ++ bsL (541165879296 ||| (ln >>> ((33 : Int32).toInt64 &&& 63))) 5) ++ bsL 4294967295 4) ++ bsL 5 1) ++ bsL (nm.toInt64 &&& 4294967295) 4) ++ bsL (if how - how / 2 * 2 = 1 then 255 else 127) 1) ++ bsL ((moF how).toInt64) 1) ++ bsL (1090921693184 ||| t0) 5) ++ bsL (moV how ln) 5).length))), (r 52, .inl (cI, 4200, .inl g298))]) hD hS hA [2, 3] rfl
                          refine va_callv (va_runV (As := [.long 4294967295, .int (nI 4)]) (rest := []) ⟨hx, hb, hml, hown, hts⟩ (c_Mo_put l D H.size cI h r 0 (nI T.length) le lv pg pn pl ((((((((((((([] : List Int32) ++ bsL 0 1) ++ bsL 252 1) ++ bsL 0 2) ++ bsL 0 1) ++ bsL (541165879296 ||| (ln >>> ((33 : Int32).toInt64 &&& 63))) 5) ++ bsL 4294967295 4) ++ bsL 5 1) ++ bsL (nm.toInt64 &&& 4294967295) 4) ++ bsL (if how - how / 2 * 2 = 1 then 255 else 127) 1) ++ bsL ((moF how).toInt64) 1) ++ bsL (1090921693184 ||| t0) 5) ++ bsL (moV how ln) 5) g298 4294967295 4 e298 (by (try simp only [List.length_append, bs_len, List.length_nil]); omega) (by omega) (by omega)) (z_cV hN wd_1451 wd_67 wd_1448 hd_Mo_put rfl rfl ⟨Nat.le_of_ble_eq_true rfl, Nat.le_of_ble_eq_true rfl⟩ wd_1450 wd_55) (z_preVm (va_recv (ci := 13) (q0 := 2) hK hP rfl rfl) hPc hKc hN hDc) rfl rfl hl.1 rfl (lv_room (Nat.le_of_ble_eq_true rfl)) d_Mo_writeOrder_306 ⟨Nat.le_of_ble_eq_true rfl, Nat.le_of_ble_eq_true rfl⟩) hS (fun q _ h => hFc q h) hFc (fun g306 t H locs ht hvm e306 hB hz1 hk1 hS => ?_)
                          obtain ⟨hP1, hK1, hD1⟩ := hB
                          rw [ht] at hP1
                          obtain ⟨hP, hD⟩ := va_join (wr := [(r 1, .inl (cI, 9400, .inl tp)), (r 51, .inl (cI, 8192, .inl wr))]) (w1 := [(h, .inr (13, mO r 0 (nI T.length) le lv pg pn pl (nI (((((((((((((([] : List Int32) ++ bsL 0 1) ++ bsL 252 1) ++ bsL 0 2) ++ bsL 0 1) ++ bsL (541165879296 ||| (ln >>> ((33 : Int32).toInt64 &&& 63))) 5) ++ bsL 4294967295 4) ++ bsL 5 1) ++ bsL (nm.toInt64 &&& 4294967295) 4) ++ bsL (if how - how / 2 * 2 = 1 then 255 else 127) 1) ++ bsL ((moF how).toInt64) 1) ++ bsL (1090921693184 ||| t0) 5) ++ bsL (moV how ln) 5) ++ bsL 4294967295 4).length))), (r 52, .inl (cI, 4200, .inl g306))]) hP hD [2, 3] [0, 1] rfl rfl (by decide) (by decide) hk1 hFc hP1 hD1
                          clear hk1 hP1 hD1 hFc hPc hDc hz1
                          have hP : va_P D classes [(r 1, .inl (cI, 9400, .inl tp)), (r 51, .inl (cI, 8192, .inl wr)), (h, .inr (13, mO r 0 (nI T.length) le lv pg pn pl (nI (((((((((((((([] : List Int32) ++ bsL 0 1) ++ bsL 252 1) ++ bsL 0 2) ++ bsL 0 1) ++ bsL (541165879296 ||| (ln >>> ((33 : Int32).toInt64 &&& 63))) 5) ++ bsL 4294967295 4) ++ bsL 5 1) ++ bsL (nm.toInt64 &&& 4294967295) 4) ++ bsL (if how - how / 2 * 2 = 1 then 255 else 127) 1) ++ bsL ((moF how).toInt64) 1) ++ bsL (1090921693184 ||| t0) 5) ++ bsL (moV how ln) 5) ++ bsL 4294967295 4).length))), (r 52, .inl (cI, 4200, .inl g306))] H := hP
                          have hD : va_D A [(r 1, .inl (cI, 9400, .inl tp)), (r 51, .inl (cI, 8192, .inl wr)), (h, .inr (13, mO r 0 (nI T.length) le lv pg pn pl (nI (((((((((((((([] : List Int32) ++ bsL 0 1) ++ bsL 252 1) ++ bsL 0 2) ++ bsL 0 1) ++ bsL (541165879296 ||| (ln >>> ((33 : Int32).toInt64 &&& 63))) 5) ++ bsL 4294967295 4) ++ bsL 5 1) ++ bsL (nm.toInt64 &&& 4294967295) 4) ++ bsL (if how - how / 2 * 2 = 1 then 255 else 127) 1) ++ bsL ((moF how).toInt64) 1) ++ bsL (1090921693184 ||| t0) 5) ++ bsL (moV how ln) 5) ++ bsL 4294967295 4).length))), (r 52, .inl (cI, 4200, .inl g306))] := hD
                          have hle : ((((((((((((([] : List Int32) ++ bsL 0 1) ++ bsL 252 1) ++ bsL 0 2) ++ bsL 0 1) ++ bsL (541165879296 ||| (ln >>> ((33 : Int32).toInt64 &&& 63))) 5) ++ bsL 4294967295 4) ++ bsL 5 1) ++ bsL (nm.toInt64 &&& 4294967295) 4) ++ bsL (if how - how / 2 * 2 = 1 then 255 else 127) 1) ++ bsL ((moF how).toInt64) 1) ++ bsL (1090921693184 ||| t0) 5) ++ bsL (moV how ln) 5) ++ bsL 4294967295 4 = moL nm how t0 ln := by unfold moL; first | (rw [if_neg h186]; rfl) | (rw [if_pos h186]; unfold moB moD; first | (rw [if_pos h231]; first | (rw [if_pos h273, List.append_nil]; rfl) | (rw [if_neg h273, List.append_nil, List.append_nil]; rfl)) | (rw [if_neg h231]; first | (rw [if_pos h237]; first | (rw [if_pos h273]; rfl) | (rw [if_neg h273, List.append_nil]; rfl)) | (rw [if_neg h237]; first | (rw [if_pos h273]; rfl) | (rw [if_neg h273, List.append_nil]; rfl))))
                          rw [hle] at hP hD e306
                          have hml2 := mo_len nm how t0 ln
                          refine lv_aload_n hx hb d_Mo_writeOrder_309 rfl (lv_at hl 1 rfl) ?_
                          refine lv_iconst (v := 3) hx hb d_Mo_writeOrder_310 (by decide) ?_
                          have hPc := hP.sub (ws' := [(h, .inr (13, mO r 0 (nI T.length) le lv pg pn pl (nI (moL nm how t0 ln).length))), (r 52, .inl (cI, 4200, .inl g306))]) [2, 3] rfl
                          have hKc := hK.sub (tys' := [(cI, .int)]) [0] rfl
                          have hDc := hD.sub (ws' := [(h, .inr (13, mO r 0 (nI T.length) le lv pg pn pl (nI (moL nm how t0 ln).length))), (r 52, .inl (cI, 4200, .inl g306))]) [2, 3] (by decide) rfl
                          have hFc := va_free (wc := [(h, .inr (13, mO r 0 (nI T.length) le lv pg pn pl (nI (moL nm how t0 ln).length))), (r 52, .inl (cI, 4200, .inl g306))]) hD hS hA [2, 3] rfl
                          refine va_callv (va_runV (As := [.int 3]) (rest := []) ⟨hx, hb, hml, hown, hts⟩ (c_Mo_sealRow l D H.size cI h r 0 (nI T.length) le lv pg pn pl (moL nm how t0 ln) g306 3 e306 hml2.1 hml2.2) (z_cV hN wd_1457 wd_67 wd_1454 hd_Mo_sealRow rfl rfl ⟨Nat.le_of_ble_eq_true rfl, Nat.le_of_ble_eq_true rfl⟩ wd_1456 wd_56) (z_preVm (va_recv (ci := 13) (q0 := 2) hK hP rfl rfl) hPc hKc hN hDc) rfl rfl hl.1 rfl (lv_room (Nat.le_of_ble_eq_true rfl)) d_Mo_writeOrder_311 ⟨Nat.le_of_ble_eq_true rfl, Nat.le_of_ble_eq_true rfl⟩) hS (fun q _ h => hFc q h) hFc (fun g311 t H locs ht hvm e311 hB hz1 hk1 hS => ?_)
                          obtain ⟨hP1, hK1, hD1⟩ := hB
                          rw [ht] at hP1
                          obtain ⟨hP, hD⟩ := va_join (wr := [(r 1, .inl (cI, 9400, .inl tp)), (r 51, .inl (cI, 8192, .inl wr))]) (w1 := [(h, .inr (13, mO r 0 (nI T.length) le lv pg pn pl (nI 184))), (r 52, .inl (cI, 4200, .inl g311))]) hP hD [2, 3] [0, 1] rfl rfl (by decide) (by decide) hk1 hFc hP1 hD1
                          clear hk1 hP1 hD1 hFc hPc hDc hz1
                          have hP : va_P D classes [(r 1, .inl (cI, 9400, .inl tp)), (r 51, .inl (cI, 8192, .inl wr)), (h, .inr (13, mO r 0 (nI T.length) le lv pg pn pl (nI 184))), (r 52, .inl (cI, 4200, .inl g311))] H := hP
                          have hD : va_D A [(r 1, .inl (cI, 9400, .inl tp)), (r 51, .inl (cI, 8192, .inl wr)), (h, .inr (13, mO r 0 (nI T.length) le lv pg pn pl (nI 184))), (r 52, .inl (cI, 4200, .inl g311))] := hD
                          have hs4 : (sealL 3 (moL nm how t0 ln)).length = 184 := sealL_len hml2.2
                          have hs5 : nI 184 = nI (sealL 3 (moL nm how t0 ln)).length := by rw [hs4]
                          rw [hs5] at hP hD
                          refine lv_aload_n hx hb d_Mo_writeOrder_314 rfl (lv_at hl 1 rfl) ?_
                          refine lv_iload_n hx hb d_Mo_writeOrder_315 rfl (lv_at hl 2 rfl) ?_
                          have hPc := hP.sub (ws' := [(h, .inr (13, mO r 0 (nI T.length) le lv pg pn pl (nI (sealL 3 (moL nm how t0 ln)).length))), (r 1, .inl (cI, 9400, .inl tp)), (r 51, .inl (cI, 8192, .inl wr)), (r 52, .inl (cI, 4200, .inl g311))]) [2, 0, 1, 3] rfl
                          have hKc := hK.sub (tys' := [(cI, .int)]) [0] rfl
                          have hDc := hD.sub (ws' := [(h, .inr (13, mO r 0 (nI T.length) le lv pg pn pl (nI (sealL 3 (moL nm how t0 ln)).length))), (r 1, .inl (cI, 9400, .inl tp)), (r 51, .inl (cI, 8192, .inl wr)), (r 52, .inl (cI, 4200, .inl g311))]) [2, 0, 1, 3] (by decide) rfl
                          have hFc := va_free (wc := [(h, .inr (13, mO r 0 (nI T.length) le lv pg pn pl (nI (sealL 3 (moL nm how t0 ln)).length))), (r 1, .inl (cI, 9400, .inl tp)), (r 51, .inl (cI, 8192, .inl wr)), (r 52, .inl (cI, 4200, .inl g311))]) hD hS hA [2, 0, 1, 3] rfl
                          refine va_callv (va_runV (As := [.int (nI i9)]) (rest := []) ⟨hx, hb, hml, hown, hts⟩ (c_Mo_writePackets l D H.size cI h r 0 le lv pg pn pl (sealL 3 (moL nm how t0 ln)) g311 T tp (wf i9) i9 wr e311 (by omega) htp (by rw [hs4]; omega) (by omega) (hwf _ (by omega)) (hwb _ (by omega))) (z_cV hN wd_1461 wd_67 wd_1458 hd_Mo_writePackets rfl rfl ⟨Nat.le_of_ble_eq_true rfl, Nat.le_of_ble_eq_true rfl⟩ wd_1460 wd_57) (z_preVm (va_recv (ci := 13) (q0 := 2) hK hP rfl rfl) hPc hKc hN hDc) rfl rfl hl.1 rfl (lv_room (Nat.le_of_ble_eq_true rfl)) d_Mo_writeOrder_316 ⟨Nat.le_of_ble_eq_true rfl, Nat.le_of_ble_eq_true rfl⟩) hS (fun q _ h => hFc q h) hFc (fun g316 t H locs ht hvm e316 hB hz1 hk1 hS => ?_)
                          obtain ⟨hP1, hK1, hD1⟩ := hB
                          rw [ht] at hP1
                          obtain ⟨hP, hD⟩ := va_join (wr := []) (w1 := [(h, .inr (13, mO r 0 (nI (T ++ ppL i9 (wf i9) (sealL 3 (moL nm how t0 ln)).length 0 (sealL 3 (moL nm how t0 ln))).length) le lv pg pn pl (nI (sealL 3 (moL nm how t0 ln)).length))), (r 1, .inl (cI, 9400, .inl g316)), (r 51, .inl (cI, 8192, .inl (upd wr i9 (nI ((wf i9) + ((sealL 3 (moL nm how t0 ln)).length + 183) / 184))))), (r 52, .inl (cI, 4200, .inl g311))]) hP hD [2, 0, 1, 3] [] rfl rfl (by decide) (by decide) hk1 hFc hP1 hD1
                          clear hk1 hP1 hD1 hFc hPc hDc hz1
                          have hP : va_P D classes [(h, .inr (13, mO r 0 (nI (T ++ ppL i9 (wf i9) (sealL 3 (moL nm how t0 ln)).length 0 (sealL 3 (moL nm how t0 ln))).length) le lv pg pn pl (nI (sealL 3 (moL nm how t0 ln)).length))), (r 1, .inl (cI, 9400, .inl g316)), (r 51, .inl (cI, 8192, .inl (upd wr i9 (nI ((wf i9) + ((sealL 3 (moL nm how t0 ln)).length + 183) / 184))))), (r 52, .inl (cI, 4200, .inl g311))] H := hP
                          have hD : va_D A [(h, .inr (13, mO r 0 (nI (T ++ ppL i9 (wf i9) (sealL 3 (moL nm how t0 ln)).length 0 (sealL 3 (moL nm how t0 ln))).length) le lv pg pn pl (nI (sealL 3 (moL nm how t0 ln)).length))), (r 1, .inl (cI, 9400, .inl g316)), (r 51, .inl (cI, 8192, .inl (upd wr i9 (nI ((wf i9) + ((sealL 3 (moL nm how t0 ln)).length + 183) / 184))))), (r 52, .inl (cI, 4200, .inl g311))] := hD
                          refine lv_aload_n hx hb d_Mo_writeOrder_319 rfl (lv_at hl 1 rfl) ?_
                          refine va_get (D := D) (ci := 13) (v := .int (nI (T ++ ppL i9 (wf i9) (sealL 3 (moL nm how t0 ln)).length 0 (sealL 3 (moL nm how t0 ln))).length)) (C := R_Mo) (T := F_Mo) (N := 54) hx hb hts i_Mo hown hK hP 0 rfl rfl 2 (by decide) (hts _ wd_1090) (fun _ h9 => h9) rfl d_Mo_writeOrder_320 ?_
                          have hP9 := hP.sub (ws' := [(h, .inr (13, mO r 0 (nI (T ++ ppL i9 (wf i9) (sealL 3 (moL nm how t0 ln)).length 0 (sealL 3 (moL nm how t0 ln))).length) le lv pg pn pl (nI (sealL 3 (moL nm how t0 ln)).length))), (r 1, .inl (cI, 9400, .inl g316)), (r 51, .inl (cI, 8192, .inl (upd wr i9 (nI ((wf i9) + ((sealL 3 (moL nm how t0 ln)).length + 183) / 184))))), (r 52, .inl (cI, 4200, .inl g311))]) [0, 1, 2, 3] rfl
                          have hD9 := hD.sub (ws' := [(h, .inr (13, mO r 0 (nI (T ++ ppL i9 (wf i9) (sealL 3 (moL nm how t0 ln)).length 0 (sealL 3 (moL nm how t0 ln))).length) le lv pg pn pl (nI (sealL 3 (moL nm how t0 ln)).length))), (r 1, .inl (cI, 9400, .inl g316)), (r 51, .inl (cI, 8192, .inl (upd wr i9 (nI ((wf i9) + ((sealL 3 (moL nm how t0 ln)).length + 183) / 184))))), (r 52, .inl (cI, 4200, .inl g311))]) [0, 1, 2, 3] (by decide) rfl
                          have hK9 := hK.sub (tys' := [(cI, .int)]) [0] rfl
                          exact W.iret (v := (nI (T ++ ppL i9 (wf i9) (sealL 3 (moL nm how t0 ln)).length 0 (sealL 3 (moL nm how t0 ln))).length)) hx hb hr (fun t ht hW => ⟨⟨_, (0, nI (T ++ ppL i9 (wf i9) (sealL 3 (moL nm how t0 ln)).length 0 (sealL 3 (moL nm how t0 ln))).length, nI (sealL 3 (moL nm how t0 ln)).length, g316, upd wr i9 (nI (wf i9 + ((sealL 3 (moL nm how t0 ln)).length + 183) / 184)), g311), rfl, Or.inr ⟨hbad, i9, rfl, hi9, Or.inr ⟨h69, ⟨rfl, e316, rfl, rfl, rfl⟩⟩⟩, ⟨by rw [ht]; exact hP9, va_K.moved hW.alike hK9, hD9⟩⟩, hS.F ht⟩) hS.2.2 d_Mo_writeOrder_323
                · have h69 : ¬ T.length + 188 ≤ 9400 := mp_full (k := 184) h69
                  refine lv_iconst (v := (-1)) hx hb d_Mo_writeOrder_72 (by decide) ?_
                  have hP9 := hP.sub (ws' := [(h, .inr (13, mO r 0 (nI T.length) le lv pg pn pl rs)), (r 1, .inl (cI, 9400, .inl tp)), (r 51, .inl (cI, 8192, .inl wr)), (r 52, .inl (cI, 4200, .inl ro))]) [0, 1, 2, 3] rfl
                  have hD9 := hD.sub (ws' := [(h, .inr (13, mO r 0 (nI T.length) le lv pg pn pl rs)), (r 1, .inl (cI, 9400, .inl tp)), (r 51, .inl (cI, 8192, .inl wr)), (r 52, .inl (cI, 4200, .inl ro))]) [0, 1, 2, 3] (by decide) rfl
                  have hK9 := hK.sub (tys' := [(cI, .int)]) [0] rfl
                  exact W.iret (v := (-1)) hx hb hr (fun t ht hW => ⟨⟨_, (0, nI T.length, rs, tp, wr, ro), rfl, Or.inr ⟨hbad, i9, rfl, hi9, Or.inl ⟨h69, rfl, rfl⟩⟩, ⟨by rw [ht]; exact hP9, va_K.moved hW.alike hK9, hD9⟩⟩, hS.F ht⟩) hS.2.2 d_Mo_writeOrder_73
              · have h42 : ln < 0 := Int64.not_le.mp (mt (lg_cmp_ge _ _).mpr h42)
                refine lv_iconst (v := 1) hx hb d_Mo_writeOrder_45 (by decide) ?_
                refine lv_goto (tgt := 50) hx hb d_Mo_writeOrder_46 rfl ?_
                refine va_put (D := D) (ci := 13) (v := .int 1) (ty := .int) (C := R_Mo) (T := F_Mo) (N := 54) hx hb hts i_Mo t_Mo t_Mo_ok n_Mo hown hK hP hD hS 0 rfl rfl 0 (by decide) (hts _ wd_1088) (fun _ h9 => h9) rfl (by decide +kernel) rfl rfl (Nat.le_of_ble_eq_true rfl) d_Mo_writeOrder_50 (fun H locs hP hD hS => ?_)
                have hP : va_P D classes [(h, .inr (13, mO r 1 (nI T.length) le lv pg pn pl rs)), (r 1, .inl (cI, 9400, .inl tp)), (r 51, .inl (cI, 8192, .inl wr)), (r 52, .inl (cI, 4200, .inl ro))] H := hP
                have hD : va_D A [(h, .inr (13, mO r 1 (nI T.length) le lv pg pn pl rs)), (r 1, .inl (cI, 9400, .inl tp)), (r 51, .inl (cI, 8192, .inl wr)), (r 52, .inl (cI, 4200, .inl ro))] := hD
                refine lv_aload_n hx hb d_Mo_writeOrder_53 rfl (lv_at hl 0 rfl) ?_
                refine va_get (D := D) (ci := 13) (v := .int 1) (C := R_Mo) (T := F_Mo) (N := 54) hx hb hts i_Mo hown hK hP 0 rfl rfl 0 (by decide) (hts _ wd_1088) (fun _ h9 => h9) rfl d_Mo_writeOrder_54 ?_
                refine lv_if_le (tgt := 62) hx hb d_Mo_writeOrder_57 rfl (fun h9 => absurd h9 (by decide)) (fun h57 => ?_)
                refine lv_iconst (v := 0) hx hb d_Mo_writeOrder_60 (by decide) ?_
                have hP9 := hP.sub (ws' := [(h, .inr (13, mO r 1 (nI T.length) le lv pg pn pl rs)), (r 1, .inl (cI, 9400, .inl tp)), (r 51, .inl (cI, 8192, .inl wr)), (r 52, .inl (cI, 4200, .inl ro))]) [0, 1, 2, 3] rfl
                have hD9 := hD.sub (ws' := [(h, .inr (13, mO r 1 (nI T.length) le lv pg pn pl rs)), (r 1, .inl (cI, 9400, .inl tp)), (r 51, .inl (cI, 8192, .inl wr)), (r 52, .inl (cI, 4200, .inl ro))]) [0, 1, 2, 3] (by decide) rfl
                have hK9 := hK.sub (tys' := [(cI, .int)]) [0] rfl
                exact W.iret (v := 0) hx hb hr (fun t ht hW => ⟨⟨_, (1, nI T.length, rs, tp, wr, ro), rfl, Or.inl ⟨by first | exact Or.inl h2 | exact Or.inr (Or.inl h9) | exact Or.inr (Or.inr (Or.inl h13)) | exact Or.inr (Or.inr (Or.inr (Or.inl h19))) | exact Or.inr (Or.inr (Or.inr (Or.inr (Or.inl h26)))) | exact Or.inr (Or.inr (Or.inr (Or.inr (Or.inr (Or.inl h35))))) | exact Or.inr (Or.inr (Or.inr (Or.inr (Or.inr (Or.inr (h42)))))), rfl, rfl⟩, ⟨by rw [ht]; exact hP9, va_K.moved hW.alike hK9, hD9⟩⟩, hS.F ht⟩) hS.2.2 d_Mo_writeOrder_61
