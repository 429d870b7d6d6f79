theorem wd_53 : (Jvm.Cond.selects "StreamSplitterModel" ({ cls := "StreamSplitterModel", name := "hasRoom", desc := "(I)Z" } : Jvm.MethodName) ({ cls := "StreamSplitterModel", name := "hasRoom", desc := "(I)Z" } : Jvm.MethodName)) ∈ lw_ok := List.mem_filter.mpr ⟨List.mem_of_getElem? (i := 53) (by decide +kernel), rfl⟩
theorem wd_57 : (Jvm.Cond.selects "StreamSplitterModel" ({ cls := "StreamSplitterModel", name := "writePackets", desc := "(I)V" } : Jvm.MethodName) ({ cls := "StreamSplitterModel", name := "writePackets", desc := "(I)V" } : Jvm.MethodName)) ∈ lw_ok := List.mem_filter.mpr ⟨List.mem_of_getElem? (i := 57) (by decide +kernel), rfl⟩
theorem wd_1335 : (Jvm.Cond.constantLong "StreamSplitterModel" (241 : Nat) (8589934592 : Int64)) ∈ lw_ok := List.mem_filter.mpr ⟨List.mem_of_getElem? (i := 1335) (by decide +kernel), rfl⟩
theorem wd_1336 : (Jvm.Cond.constantLong "StreamSplitterModel" (253 : Nat) (4294967296 : Int64)) ∈ lw_ok := List.mem_filter.mpr ⟨List.mem_of_getElem? (i := 1336) (by decide +kernel), rfl⟩
theorem wd_1440 : (Jvm.Cond.methodLink "StreamSplitterModel" (289 : Nat) ({ cls := "StreamSplitterModel", name := "hasRoom", desc := "(I)Z" } : Jvm.MethodName)) ∈ lw_ok := List.mem_filter.mpr ⟨List.mem_of_getElem? (i := 1440) (by decide +kernel), rfl⟩
theorem wd_1442 : (Jvm.Cond.instanceMethod ({ cls := "StreamSplitterModel", name := "hasRoom", desc := "(I)Z" } : Jvm.MethodName)) ∈ lw_ok := List.mem_filter.mpr ⟨List.mem_of_getElem? (i := 1442) (by decide +kernel), rfl⟩
set_option maxRecDepth 100000 in
theorem wd_1443 : (Jvm.Cond.code ({ cls := "StreamSplitterModel", name := "hasRoom", desc := "(I)Z" } : Jvm.MethodName) prog_14_method_49_code (2 : Nat) (Option.some Jvm.ClassFile.FieldType.boolean)) ∈ lw_ok := List.mem_filter.mpr ⟨List.mem_of_getElem? (i := 1443) (by rfl), rfl⟩
theorem wd_1458 : (Jvm.Cond.methodLink "StreamSplitterModel" (300 : Nat) ({ cls := "StreamSplitterModel", name := "writePackets", desc := "(I)V" } : Jvm.MethodName)) ∈ lw_ok := List.mem_filter.mpr ⟨List.mem_of_getElem? (i := 1458) (by decide +kernel), rfl⟩
theorem wd_1460 : (Jvm.Cond.instanceMethod ({ cls := "StreamSplitterModel", name := "writePackets", desc := "(I)V" } : Jvm.MethodName)) ∈ lw_ok := List.mem_filter.mpr ⟨List.mem_of_getElem? (i := 1460) (by decide +kernel), rfl⟩
set_option maxRecDepth 100000 in
theorem wd_1461 : (Jvm.Cond.code ({ cls := "StreamSplitterModel", name := "writePackets", desc := "(I)V" } : Jvm.MethodName) prog_14_method_48_code (6 : Nat) (Option.none : Option Jvm.ClassFile.FieldType)) ∈ lw_ok := List.mem_filter.mpr ⟨List.mem_of_getElem? (i := 1461) (by rfl), rfl⟩
theorem wd_1467 : (Jvm.Cond.constant "StreamSplitterModel" (305 : Nat) (2097151 : Int32)) ∈ lw_ok := List.mem_filter.mpr ⟨List.mem_of_getElem? (i := 1467) (by decide +kernel), rfl⟩
theorem wd_1468 : (Jvm.Cond.constantLong "StreamSplitterModel" (306 : Nat) (128 : Int64)) ∈ lw_ok := List.mem_filter.mpr ⟨List.mem_of_getElem? (i := 1468) (by decide +kernel), rfl⟩
theorem wd_1469 : (Jvm.Cond.constantLong "StreamSplitterModel" (308 : Nat) (137438953472 : Int64)) ∈ lw_ok := List.mem_filter.mpr ⟨List.mem_of_getElem? (i := 1469) (by decide +kernel), rfl⟩
theorem wd_1470 : (Jvm.Cond.constantLong "StreamSplitterModel" (310 : Nat) (32767 : Int64)) ∈ lw_ok := List.mem_filter.mpr ⟨List.mem_of_getElem? (i := 1470) (by decide +kernel), rfl⟩
theorem wd_1471 : (Jvm.Cond.constantLong "StreamSplitterModel" (312 : Nat) (65536 : Int64)) ∈ lw_ok := List.mem_filter.mpr ⟨List.mem_of_getElem? (i := 1471) (by decide +kernel), rfl⟩
theorem wd_1472 : (Jvm.Cond.constant "StreamSplitterModel" (314 : Nat) (1103515245 : Int32)) ∈ lw_ok := List.mem_filter.mpr ⟨List.mem_of_getElem? (i := 1472) (by decide +kernel), rfl⟩
theorem hd_Mo_hasRoom : y_Mo_hasRoom.cls ≠ "java/lang/invoke/MethodHandle" ∧ y_Mo_hasRoom.cls ≠ "java/lang/invoke/VarHandle" ∧ (parseMethodDescriptor y_Mo_hasRoom.desc).map (fun d => d.parameters.length) = some 1 := by decide +kernel
theorem hd_Mo_writePackets : y_Mo_writePackets.cls ≠ "java/lang/invoke/MethodHandle" ∧ y_Mo_writePackets.cls ≠ "java/lang/invoke/VarHandle" ∧ (parseMethodDescriptor y_Mo_writePackets.desc).map (fun d => d.parameters.length) = some 1 := by decide +kernel
theorem d_Mo_writePiece_0 : decode b_Mo_writePiece 0 = .ok (.aload_n 0, 1) := by decide +kernel
theorem d_Mo_writePiece_1 : decode b_Mo_writePiece 1 = .ok (.iload_n 1, 1) := by decide +kernel
theorem d_Mo_writePiece_2 : decode b_Mo_writePiece 2 = .ok (.ifCond .lt 31, 3) := by decide +kernel
theorem d_Mo_writePiece_5 : decode b_Mo_writePiece 5 = .ok (.iload_n 1, 1) := by decide +kernel
theorem d_Mo_writePiece_6 : decode b_Mo_writePiece 6 = .ok (.ldc_w 305, 3) := by decide +kernel
theorem d_Mo_writePiece_9 : decode b_Mo_writePiece 9 = .ok (.if_icmp .gt 24, 3) := by decide +kernel
theorem d_Mo_writePiece_12 : decode b_Mo_writePiece 12 = .ok (.iload 4, 2) := by decide +kernel
theorem d_Mo_writePiece_14 : decode b_Mo_writePiece 14 = .ok (.ifCond .lt 19, 3) := by decide +kernel
theorem d_Mo_writePiece_17 : decode b_Mo_writePiece 17 = .ok (.iload 4, 2) := by decide +kernel
theorem d_Mo_writePiece_19 : decode b_Mo_writePiece 19 = .ok (.sipush 4000, 3) := by decide +kernel
theorem d_Mo_writePiece_22 : decode b_Mo_writePiece 22 = .ok (.if_icmp .gt 11, 3) := by decide +kernel
theorem d_Mo_writePiece_25 : decode b_Mo_writePiece 25 = .ok (.lload_n 2, 1) := by decide +kernel
theorem d_Mo_writePiece_26 : decode b_Mo_writePiece 26 = .ok (.ldc2_w 241, 3) := by decide +kernel
theorem d_Mo_writePiece_29 : decode b_Mo_writePiece 29 = .ok (.lcmp, 1) := by decide +kernel
theorem d_Mo_writePiece_30 : decode b_Mo_writePiece 30 = .ok (.ifCond .lt 7, 3) := by decide +kernel
theorem d_Mo_writePiece_33 : decode b_Mo_writePiece 33 = .ok (.iconst 1, 1) := by decide +kernel
theorem d_Mo_writePiece_34 : decode b_Mo_writePiece 34 = .ok (.goto 4, 3) := by decide +kernel
theorem d_Mo_writePiece_37 : decode b_Mo_writePiece 37 = .ok (.iconst 0, 1) := by decide +kernel
theorem d_Mo_writePiece_38 : decode b_Mo_writePiece 38 = .ok (.putfield 156, 3) := by decide +kernel
theorem d_Mo_writePiece_41 : decode b_Mo_writePiece 41 = .ok (.aload_n 0, 1) := by decide +kernel
theorem d_Mo_writePiece_42 : decode b_Mo_writePiece 42 = .ok (.getfield 156, 3) := by decide +kernel
theorem d_Mo_writePiece_45 : decode b_Mo_writePiece 45 = .ok (.ifCond .le 5, 3) := by decide +kernel
theorem d_Mo_writePiece_48 : decode b_Mo_writePiece 48 = .ok (.iconst 0, 1) := by decide +kernel
theorem d_Mo_writePiece_49 : decode b_Mo_writePiece 49 = .ok (.ireturn, 1) := by decide +kernel
theorem d_Mo_writePiece_50 : decode b_Mo_writePiece 50 = .ok (.lload_n 2, 1) := by decide +kernel
theorem d_Mo_writePiece_51 : decode b_Mo_writePiece 51 = .ok (.lconst 0, 1) := by decide +kernel
theorem d_Mo_writePiece_52 : decode b_Mo_writePiece 52 = .ok (.lcmp, 1) := by decide +kernel
theorem d_Mo_writePiece_53 : decode b_Mo_writePiece 53 = .ok (.ifCond .ge 7, 3) := by decide +kernel
theorem d_Mo_writePiece_56 : decode b_Mo_writePiece 56 = .ok (.iconst 0, 1) := by decide +kernel
theorem d_Mo_writePiece_57 : decode b_Mo_writePiece 57 = .ok (.goto 4, 3) := by decide +kernel
theorem d_Mo_writePiece_60 : decode b_Mo_writePiece 60 = .ok (.iconst 5, 1) := by decide +kernel
theorem d_Mo_writePiece_61 : decode b_Mo_writePiece 61 = .ok (.istore 7, 2) := by decide +kernel
theorem d_Mo_writePiece_63 : decode b_Mo_writePiece 63 = .ok (.aload_n 0, 1) := by decide +kernel
theorem d_Mo_writePiece_64 : decode b_Mo_writePiece 64 = .ok (.bipush 9, 2) := by decide +kernel
theorem d_Mo_writePiece_66 : decode b_Mo_writePiece 66 = .ok (.iload 7, 2) := by decide +kernel
theorem d_Mo_writePiece_68 : decode b_Mo_writePiece 68 = .ok (.iadd, 1) := by decide +kernel
theorem d_Mo_writePiece_69 : decode b_Mo_writePiece 69 = .ok (.iload 4, 2) := by decide +kernel
theorem d_Mo_writePiece_71 : decode b_Mo_writePiece 71 = .ok (.iadd, 1) := by decide +kernel
theorem d_Mo_writePiece_72 : decode b_Mo_writePiece 72 = .ok (.invokevirtual 289, 3) := by decide +kernel
theorem d_Mo_writePiece_75 : decode b_Mo_writePiece 75 = .ok (.ifCond .ne 5, 3) := by decide +kernel
theorem d_Mo_writePiece_78 : decode b_Mo_writePiece 78 = .ok (.iconst (-1), 1) := by decide +kernel
theorem d_Mo_writePiece_79 : decode b_Mo_writePiece 79 = .ok (.ireturn, 1) := by decide +kernel
theorem d_Mo_writePiece_80 : decode b_Mo_writePiece 80 = .ok (.aload_n 0, 1) := by decide +kernel
theorem d_Mo_writePiece_81 : decode b_Mo_writePiece 81 = .ok (.iconst 0, 1) := by decide +kernel
theorem d_Mo_writePiece_82 : decode b_Mo_writePiece 82 = .ok (.putfield 280, 3) := by decide +kernel
theorem d_Mo_writePiece_85 : decode b_Mo_writePiece 85 = .ok (.aload_n 0, 1) := by decide +kernel
theorem d_Mo_writePiece_86 : decode b_Mo_writePiece 86 = .ok (.lconst 1, 1) := by decide +kernel
theorem d_Mo_writePiece_87 : decode b_Mo_writePiece 87 = .ok (.iconst 3, 1) := by decide +kernel
theorem d_Mo_writePiece_88 : decode b_Mo_writePiece 88 = .ok (.invokevirtual 283, 3) := by decide +kernel
theorem d_Mo_writePiece_91 : decode b_Mo_writePiece 91 = .ok (.aload_n 0, 1) := by decide +kernel
theorem d_Mo_writePiece_92 : decode b_Mo_writePiece 92 = .ok (.iload_n 1, 1) := by decide +kernel
theorem d_Mo_writePiece_93 : decode b_Mo_writePiece 93 = .ok (.sipush 8192, 3) := by decide +kernel
theorem d_Mo_writePiece_96 : decode b_Mo_writePiece 96 = .ok (.idiv, 1) := by decide +kernel
theorem d_Mo_writePiece_97 : decode b_Mo_writePiece 97 = .ok (.i2l, 1) := by decide +kernel
theorem d_Mo_writePiece_98 : decode b_Mo_writePiece 98 = .ok (.iconst 1, 1) := by decide +kernel
theorem d_Mo_writePiece_99 : decode b_Mo_writePiece 99 = .ok (.invokevirtual 283, 3) := by decide +kernel
theorem d_Mo_writePiece_102 : decode b_Mo_writePiece 102 = .ok (.aload_n 0, 1) := by decide +kernel
theorem d_Mo_writePiece_103 : decode b_Mo_writePiece 103 = .ok (.iload 6, 2) := by decide +kernel
theorem d_Mo_writePiece_105 : decode b_Mo_writePiece 105 = .ok (.ifCond .eq 14, 3) := by decide +kernel
theorem d_Mo_writePiece_108 : decode b_Mo_writePiece 108 = .ok (.iload 4, 2) := by decide +kernel
theorem d_Mo_writePiece_110 : decode b_Mo_writePiece 110 = .ok (.iconst 3, 1) := by decide +kernel
theorem d_Mo_writePiece_111 : decode b_Mo_writePiece 111 = .ok (.iadd, 1) := by decide +kernel
theorem d_Mo_writePiece_112 : decode b_Mo_writePiece 112 = .ok (.iload 7, 2) := by decide +kernel
theorem d_Mo_writePiece_114 : decode b_Mo_writePiece 114 = .ok (.iadd, 1) := by decide +kernel
theorem d_Mo_writePiece_115 : decode b_Mo_writePiece 115 = .ok (.i2l, 1) := by decide +kernel
theorem d_Mo_writePiece_116 : decode b_Mo_writePiece 116 = .ok (.goto 4, 3) := by decide +kernel
theorem d_Mo_writePiece_119 : decode b_Mo_writePiece 119 = .ok (.lconst 0, 1) := by decide +kernel
theorem d_Mo_writePiece_120 : decode b_Mo_writePiece 120 = .ok (.iconst 2, 1) := by decide +kernel
theorem d_Mo_writePiece_121 : decode b_Mo_writePiece 121 = .ok (.invokevirtual 283, 3) := by decide +kernel
theorem d_Mo_writePiece_124 : decode b_Mo_writePiece 124 = .ok (.aload_n 0, 1) := by decide +kernel
theorem d_Mo_writePiece_125 : decode b_Mo_writePiece 125 = .ok (.ldc2_w 306, 3) := by decide +kernel
theorem d_Mo_writePiece_128 : decode b_Mo_writePiece 128 = .ok (.iconst 1, 1) := by decide +kernel
theorem d_Mo_writePiece_129 : decode b_Mo_writePiece 129 = .ok (.invokevirtual 283, 3) := by decide +kernel
theorem d_Mo_writePiece_132 : decode b_Mo_writePiece 132 = .ok (.aload_n 0, 1) := by decide +kernel
theorem d_Mo_writePiece_133 : decode b_Mo_writePiece 133 = .ok (.iload 7, 2) := by decide +kernel
theorem d_Mo_writePiece_135 : decode b_Mo_writePiece 135 = .ok (.ifCond .le 9, 3) := by decide +kernel
theorem d_Mo_writePiece_138 : decode b_Mo_writePiece 138 = .ok (.ldc2_w 306, 3) := by decide +kernel
theorem d_Mo_writePiece_141 : decode b_Mo_writePiece 141 = .ok (.goto 4, 3) := by decide +kernel
theorem d_Mo_writePiece_144 : decode b_Mo_writePiece 144 = .ok (.lconst 0, 1) := by decide +kernel
theorem d_Mo_writePiece_145 : decode b_Mo_writePiece 145 = .ok (.iconst 1, 1) := by decide +kernel
theorem d_Mo_writePiece_146 : decode b_Mo_writePiece 146 = .ok (.invokevirtual 283, 3) := by decide +kernel
theorem d_Mo_writePiece_149 : decode b_Mo_writePiece 149 = .ok (.aload_n 0, 1) := by decide +kernel
theorem d_Mo_writePiece_150 : decode b_Mo_writePiece 150 = .ok (.iload 7, 2) := by decide +kernel
theorem d_Mo_writePiece_152 : decode b_Mo_writePiece 152 = .ok (.i2l, 1) := by decide +kernel
theorem d_Mo_writePiece_153 : decode b_Mo_writePiece 153 = .ok (.iconst 1, 1) := by decide +kernel
theorem d_Mo_writePiece_154 : decode b_Mo_writePiece 154 = .ok (.invokevirtual 283, 3) := by decide +kernel
theorem d_Mo_writePiece_157 : decode b_Mo_writePiece 157 = .ok (.iload 7, 2) := by decide +kernel
theorem d_Mo_writePiece_159 : decode b_Mo_writePiece 159 = .ok (.ifCond .le 49, 3) := by decide +kernel
theorem d_Mo_writePiece_162 : decode b_Mo_writePiece 162 = .ok (.aload_n 0, 1) := by decide +kernel
theorem d_Mo_writePiece_163 : decode b_Mo_writePiece 163 = .ok (.ldc2_w 308, 3) := by decide +kernel
theorem d_Mo_writePiece_166 : decode b_Mo_writePiece 166 = .ok (.lload_n 2, 1) := by decide +kernel
theorem d_Mo_writePiece_167 : decode b_Mo_writePiece 167 = .ok (.bipush 30, 2) := by decide +kernel
theorem d_Mo_writePiece_169 : decode b_Mo_writePiece 169 = .ok (.lshr, 1) := by decide +kernel
theorem d_Mo_writePiece_170 : decode b_Mo_writePiece 170 = .ok (.bipush 33, 2) := by decide +kernel
theorem d_Mo_writePiece_172 : decode b_Mo_writePiece 172 = .ok (.lshl, 1) := by decide +kernel
theorem d_Mo_writePiece_173 : decode b_Mo_writePiece 173 = .ok (.lor, 1) := by decide +kernel
theorem d_Mo_writePiece_174 : decode b_Mo_writePiece 174 = .ok (.ldc2_w 253, 3) := by decide +kernel
theorem d_Mo_writePiece_177 : decode b_Mo_writePiece 177 = .ok (.lor, 1) := by decide +kernel
theorem d_Mo_writePiece_178 : decode b_Mo_writePiece 178 = .ok (.lload_n 2, 1) := by decide +kernel
theorem d_Mo_writePiece_179 : decode b_Mo_writePiece 179 = .ok (.bipush 15, 2) := by decide +kernel
theorem d_Mo_writePiece_181 : decode b_Mo_writePiece 181 = .ok (.lshr, 1) := by decide +kernel
theorem d_Mo_writePiece_182 : decode b_Mo_writePiece 182 = .ok (.ldc2_w 310, 3) := by decide +kernel
theorem d_Mo_writePiece_185 : decode b_Mo_writePiece 185 = .ok (.land, 1) := by decide +kernel
theorem d_Mo_writePiece_186 : decode b_Mo_writePiece 186 = .ok (.bipush 17, 2) := by decide +kernel
theorem d_Mo_writePiece_188 : decode b_Mo_writePiece 188 = .ok (.lshl, 1) := by decide +kernel
theorem d_Mo_writePiece_189 : decode b_Mo_writePiece 189 = .ok (.lor, 1) := by decide +kernel
theorem d_Mo_writePiece_190 : decode b_Mo_writePiece 190 = .ok (.ldc2_w 312, 3) := by decide +kernel
theorem d_Mo_writePiece_193 : decode b_Mo_writePiece 193 = .ok (.lor, 1) := by decide +kernel
theorem d_Mo_writePiece_194 : decode b_Mo_writePiece 194 = .ok (.lload_n 2, 1) := by decide +kernel
theorem d_Mo_writePiece_195 : decode b_Mo_writePiece 195 = .ok (.ldc2_w 310, 3) := by decide +kernel
theorem d_Mo_writePiece_198 : decode b_Mo_writePiece 198 = .ok (.land, 1) := by decide +kernel
theorem d_Mo_writePiece_199 : decode b_Mo_writePiece 199 = .ok (.iconst 1, 1) := by decide +kernel
theorem d_Mo_writePiece_200 : decode b_Mo_writePiece 200 = .ok (.lshl, 1) := by decide +kernel
theorem d_Mo_writePiece_201 : decode b_Mo_writePiece 201 = .ok (.lor, 1) := by decide +kernel
theorem d_Mo_writePiece_202 : decode b_Mo_writePiece 202 = .ok (.lconst 1, 1) := by decide +kernel
theorem d_Mo_writePiece_203 : decode b_Mo_writePiece 203 = .ok (.lor, 1) := by decide +kernel
theorem d_Mo_writePiece_204 : decode b_Mo_writePiece 204 = .ok (.iconst 5, 1) := by decide +kernel
theorem d_Mo_writePiece_205 : decode b_Mo_writePiece 205 = .ok (.invokevirtual 283, 3) := by decide +kernel
theorem d_Mo_writePiece_208 : decode b_Mo_writePiece 208 = .ok (.iload 5, 2) := by decide +kernel
theorem d_Mo_writePiece_210 : decode b_Mo_writePiece 210 = .ok (.istore 8, 2) := by decide +kernel
theorem d_Mo_writePiece_212 : decode b_Mo_writePiece 212 = .ok (.iconst 0, 1) := by decide +kernel
theorem d_Mo_writePiece_213 : decode b_Mo_writePiece 213 = .ok (.istore 9, 2) := by decide +kernel
theorem d_Mo_writePiece_215 : decode b_Mo_writePiece 215 = .ok (.iload 9, 2) := by decide +kernel
theorem d_Mo_writePiece_217 : decode b_Mo_writePiece 217 = .ok (.iload 4, 2) := by decide +kernel
theorem d_Mo_writePiece_219 : decode b_Mo_writePiece 219 = .ok (.if_icmp .ge 36, 3) := by decide +kernel
theorem d_Mo_writePiece_222 : decode b_Mo_writePiece 222 = .ok (.ldc_w 314, 3) := by decide +kernel
theorem d_Mo_writePiece_225 : decode b_Mo_writePiece 225 = .ok (.iload 8, 2) := by decide +kernel
theorem d_Mo_writePiece_227 : decode b_Mo_writePiece 227 = .ok (.imul, 1) := by decide +kernel
theorem d_Mo_writePiece_228 : decode b_Mo_writePiece 228 = .ok (.sipush 12345, 3) := by decide +kernel
theorem d_Mo_writePiece_231 : decode b_Mo_writePiece 231 = .ok (.iadd, 1) := by decide +kernel
theorem d_Mo_writePiece_232 : decode b_Mo_writePiece 232 = .ok (.istore 8, 2) := by decide +kernel
theorem d_Mo_writePiece_234 : decode b_Mo_writePiece 234 = .ok (.aload_n 0, 1) := by decide +kernel
theorem d_Mo_writePiece_235 : decode b_Mo_writePiece 235 = .ok (.iload 8, 2) := by decide +kernel
theorem d_Mo_writePiece_237 : decode b_Mo_writePiece 237 = .ok (.bipush 16, 2) := by decide +kernel
theorem d_Mo_writePiece_239 : decode b_Mo_writePiece 239 = .ok (.ishr, 1) := by decide +kernel
theorem d_Mo_writePiece_240 : decode b_Mo_writePiece 240 = .ok (.sipush 255, 3) := by decide +kernel
theorem d_Mo_writePiece_243 : decode b_Mo_writePiece 243 = .ok (.iand, 1) := by decide +kernel
theorem d_Mo_writePiece_244 : decode b_Mo_writePiece 244 = .ok (.i2l, 1) := by decide +kernel
theorem d_Mo_writePiece_245 : decode b_Mo_writePiece 245 = .ok (.iconst 1, 1) := by decide +kernel
theorem d_Mo_writePiece_246 : decode b_Mo_writePiece 246 = .ok (.invokevirtual 283, 3) := by decide +kernel
theorem d_Mo_writePiece_249 : decode b_Mo_writePiece 249 = .ok (.iinc 9 1, 3) := by decide +kernel
theorem d_Mo_writePiece_252 : decode b_Mo_writePiece 252 = .ok (.goto (-37), 3) := by decide +kernel
theorem d_Mo_writePiece_255 : decode b_Mo_writePiece 255 = .ok (.aload_n 0, 1) := by decide +kernel
theorem d_Mo_writePiece_256 : decode b_Mo_writePiece 256 = .ok (.iload_n 1, 1) := by decide +kernel
theorem d_Mo_writePiece_257 : decode b_Mo_writePiece 257 = .ok (.sipush 8192, 3) := by decide +kernel
theorem d_Mo_writePiece_260 : decode b_Mo_writePiece 260 = .ok (.irem, 1) := by decide +kernel
theorem d_Mo_writePiece_261 : decode b_Mo_writePiece 261 = .ok (.invokevirtual 300, 3) := by decide +kernel
theorem d_Mo_writePiece_264 : decode b_Mo_writePiece 264 = .ok (.aload_n 0, 1) := by decide +kernel
theorem d_Mo_writePiece_265 : decode b_Mo_writePiece 265 = .ok (.getfield 159, 3) := by decide +kernel
theorem d_Mo_writePiece_268 : decode b_Mo_writePiece 268 = .ok (.ireturn, 1) := by decide +kernel
/-! The reference's writePiece and writeOrder -/
abbrev MWQ := Int32 × Int32 × Int32 × (Nat → Int32) × (Nat → Int32) × (Nat → Int32)
def MW (T X : List Int32) (pid : Nat) (wf : Nat → Nat) (wr : Nat → Int32) (u : MWQ) (r0 : Int32) : Prop :=
  u.1 = 0 ∧ rl u.2.2.2.1 (T ++ ppL pid (wf pid) X.length 0 X) ∧ u.2.1 = nI (T ++ ppL pid (wf pid) X.length 0 X).length ∧ u.2.2.2.2.1 = upd wr pid (nI (wf pid + (X.length + 183) / 184)) ∧ r0 = u.2.1
def tx (t : Int64) : Nat := if t < 0 then 0 else 5
theorem tx_0 {t : Int64} (h : nI (tx t) ≤ 0) : t < 0 := by
  unfold tx at h
  by_cases c : t < 0
  · exact c
  · rw [if_neg c] at h
    exact absurd h (by decide)
theorem tx_5 {t : Int64} (h : ¬ nI (tx t) ≤ 0) : ¬ t < 0 := by
  intro c
  apply h
  unfold tx
  rw [if_pos c]
  decide
theorem tx_le (t : Int64) : tx t ≤ 5 := by
  unfold tx
  by_cases c : t < 0
  · rw [if_pos c]; omega
  · rw [if_neg c]; omega
def mgL (x : Int32) (n : Nat) : List Int32 := (List.range n).map (fun j => pb (((gnX x (j + 1)) >>> ((16 : Int32) &&& 31)) &&& 255).toInt64 0)
theorem mg_len (x : Int32) (n : Nat) : (mgL x n).length = n := by simp [mgL]
theorem mg_take (x : Int32) {n j : Nat} (h : j < n) : (mgL x n).take (j + 1) = (mgL x n).take j ++ bsL (((gnX x (j + 1)) >>> ((16 : Int32) &&& 31)) &&& 255).toInt64 1 := by
  rw [List.take_succ, bs_1]
  congr 1
  simp only [mgL, List.getElem?_map, List.getElem?_range h, Option.map_some, Option.toList_some]
def mpT (t : Int64) : Int64 := (((((137438953472 ||| ((t >>> ((30 : Int32).toInt64 &&& 63)) <<< ((33 : Int32).toInt64 &&& 63))) ||| 4294967296) ||| (((t >>> ((15 : Int32).toInt64 &&& 63)) &&& 32767) <<< ((17 : Int32).toInt64 &&& 63))) ||| 65536) ||| ((t &&& 32767) <<< ((1 : Int32).toInt64 &&& 63))) ||| 1
def mpA (kd : Int32) (t ts : Int64) : List Int32 := (((((bsL 1 3 ++ bsL kd.toInt64 1) ++ bsL ts 2) ++ bsL 128 1) ++ bsL (if t < 0 then 0 else 128) 1) ++ bsL (nI (tx t)).toInt64 1)
def mpH (kd : Int32) (t ts : Int64) : List Int32 := mpA kd t ts ++ (if t < 0 then [] else bsL (mpT t) 5)
theorem mp_len (kd : Int32) (t ts : Int64) : (mpH kd t ts).length = 9 + tx t := by
  unfold mpH mpA tx
  by_cases c : t < 0
  · simp [c, bs_len]
  · simp [c, bs_len]
def mpL (kd : Int32) (t ts : Int64) (sd : Int32) (n : Nat) : List Int32 := mpH kd t ts ++ mgL sd n
def wpRm (n : Nat) (t : Int64) (c : Nat) : Prop := n + ((9 + tx t + c) + 183) / 184 * 188 ≤ 9400
theorem mp_room {n k : Nat} (h : ¬ (if n + (k + 183) / 184 * 188 ≤ 9400 then (1 : Int32) else 0) = 0) : n + (k + 183) / 184 * 188 ≤ 9400 := by
  apply Decidable.byContradiction
  intro c
  rw [if_neg c] at h
  exact h rfl
theorem mp_full {n k : Nat} (h : (if n + (k + 183) / 184 * 188 ≤ 9400 then (1 : Int32) else 0) = 0) : ¬ n + (k + 183) / 184 * 188 ≤ 9400 := by
  intro c
  rw [if_pos c] at h
  exact absurd h (by decide)
theorem mp_i0 {X : List Int32} {kd sd : Int32} {t ts : Int64} {n : Nat} (ht : t < 0) (h : X = mpA kd t ts) : X = mpH kd t ts ++ (mgL sd n).take 0 := by
  unfold mpH
  rw [if_pos ht, List.take_zero, List.append_nil, List.append_nil, h]
theorem mp_i5 {X : List Int32} {kd sd : Int32} {t ts : Int64} {n : Nat} (ht : ¬ t < 0) (h : X = mpA kd t ts ++ bsL (mpT t) 5) : X = mpH kd t ts ++ (mgL sd n).take 0 := by
  unfold mpH
  rw [if_neg ht, List.take_zero, List.append_nil, h]
theorem mp_go {X : List Int32} {kd sd : Int32} {t ts : Int64} {n j : Nat} (hX : X = mpH kd t ts ++ (mgL sd n).take j) (h : j < n) : X ++ bsL (((gnX sd (j + 1)) >>> ((16 : Int32) &&& 31)) &&& 255).toInt64 1 = mpH kd t ts ++ (mgL sd n).take (j + 1) := by
  rw [hX, mg_take sd h, List.append_assoc]
theorem mp_end {X : List Int32} {kd sd : Int32} {t ts : Int64} {n j : Nat} (hX : X = mpH kd t ts ++ (mgL sd n).take j) (h : n ≤ j) : X = mpL kd t ts sd n := by
  rw [hX, List.take_of_length_le (by rw [mg_len]; exact h), mpL]
theorem mp_xl {X : List Int32} {kd sd : Int32} {t ts : Int64} {n j : Nat} (hX : X = mpH kd t ts ++ (mgL sd n).take j) (h : j ≤ n) : X.length = 9 + tx t + j := by
  rw [hX, List.length_append, mp_len, List.length_take, mg_len, Nat.min_eq_left h]

set_option maxHeartbeats 4000000 in
set_option maxRecDepth 100000 in
theorem c_Mo_writePiece (l : Launch) (D : va_G) (sz : Nat) (cI : ClassId) (h : Nat) (r : Nat → Nat) (th le lv pg pn pl rs : Int32) (T : List Int32) (tp : Nat → Int32) (wf : Nat → Nat) (wr ro : Nat → Int32) (i : Int32) (t0 : Int64) (c sd fl : Int32) (htp : rl tp T) (hn : T.length ≤ 9400) (hwf : ∀ x, x < 8192 → wr x = nI (wf x)) (hwb : ∀ x, x < 8192 → wf x < 2 ^ 29) : Met l y_Mo_writePiece [Cond.code y_Mo_writePiece b_Mo_writePiece 10 (some .int)] ({ frames := 1, cells := 0, slots := 0, locals := 25 }) (zM [.ref h, .int i, .long t0, .int c, .int sd, .int fl] D [(h, .inr (13, mO r th (nI T.length) le lv pg pn pl rs)), (r 1, .inl (cI, 9400, .inl tp)), (r 51, .inl (cI, 8192, .inl wr)), (r 52, .inl (cI, 4200, .inl ro))] [(cI, .int)] sz) (va_Qi (fun r0 (u : MWQ) => ((i < 0 ∨ 2097151 < i ∨ c < 0 ∨ 4000 < c ∨ 8589934592 ≤ t0) ∧ r0 = 0 ∧ u = (1, nI T.length, rs, tp, wr, ro)) ∨ (∃ a9 b9 : Nat, i = nI a9 ∧ a9 ≤ 2097151 ∧ c = nI b9 ∧ b9 ≤ 4000 ∧ t0 < 8589934592 ∧ ((¬ wpRm T.length t0 b9 ∧ r0 = -1 ∧ u = (0, nI T.length, rs, tp, wr, ro)) ∨ (wpRm T.length t0 b9 ∧ MW T (mpL (nI (a9 / 8192)) t0 (if fl = 0 then 0 else (nI (b9 + 3 + tx t0)).toInt64) sd b9) (a9 % 8192) wf wr u r0)))) (fun (u : MWQ) t => zW D (va_A [(h, .inr (13, mO r th (nI T.length) le lv pg pn pl rs)), (r 1, .inl (cI, 9400, .inl tp)), (r 51, .inl (cI, 8192, .inl wr)), (r 52, .inl (cI, 4200, .inl ro))] sz) [(h, .inr (13, mO r u.1 u.2.1 le lv pg pn pl u.2.2.1)), (r 1, .inl (cI, 9400, .inl u.2.2.2.1)), (r 51, .inl (cI, 8192, .inl u.2.2.2.2.1)), (r 52, .inl (cI, 4200, .inl u.2.2.2.2.2))] [(cI, .int)] t) (va_A [(h, .inr (13, mO r th (nI T.length) le lv pg pn pl rs)), (r 1, .inl (cI, 9400, .inl tp)), (r 51, .inl (cI, 8192, .inl wr)), (r 52, .inl (cI, 4200, .inl ro))] sz)) 0 0 (va_A [(h, .inr (13, mO r th (nI T.length) le lv pg pn pl rs)), (r 1, .inl (cI, 9400, .inl tp)), (r 51, .inl (cI, 8192, .inl wr)), (r 52, .inl (cI, 4200, .inl ro))] sz) := by
  refine Met.ofW (cc := b_Mo_writePiece) (maxL := 10) (ret := (some .int)) (by decide) rfl ?_
  intro p e s m args below meth cd s₁ Bd hml hv
  obtain ⟨rfl, hsz, hP, hK, hN, hD0⟩ := hv
  have hx := Bd.exec
  have hb := Bd.bytes
  have hr := Bd.returns
  have hts := hN.use (a := ([.ref h, .int i, .long t0, .int c, .int sd, .int fl]).toArray)
  have hown : s.vm.findClass R_Mo = some m.cls := findClass_of_methodNamed Bd.named
  have hlocks := Bd.notSynchronized
  subst hsz
  have hD := hD0.self (sz := s.heap.size)
  clear hD0
  have hA : ∀ q : Nat, s.heap.size ≤ q → va_A [(h, .inr (13, mO r th (nI T.length) le lv pg pn pl rs)), (r 1, .inl (cI, 9400, .inl tp)), (r 51, .inl (cI, 8192, .inl wr)), (r 52, .inl (cI, 4200, .inl ro))] s.heap.size q := fun q h => Or.inr h
  have hS : va_S (va_A [(h, .inr (13, mO r th (nI T.length) le lv pg pn pl rs)), (r 1, .inl (cI, 9400, .inl tp)), (r 51, .inl (cI, 8192, .inl wr)), (r 52, .inl (cI, 4200, .inl ro))] s.heap.size) s.heap s.heap [] := va_S.rf
  generalize hAe : va_A [(h, .inr (13, mO r th (nI T.length) le lv pg pn pl rs)), (r 1, .inl (cI, 9400, .inl tp)), (r 51, .inl (cI, 8192, .inl wr)), (r 52, .inl (cI, 4200, .inl ro))] s.heap.size = A at hD hA hS ⊢
  have hP : va_P D classes [(h, .inr (13, mO r th (nI T.length) le lv pg pn pl rs)), (r 1, .inl (cI, 9400, .inl tp)), (r 51, .inl (cI, 8192, .inl wr)), (r 52, .inl (cI, 4200, .inl ro))] s.heap := hP
  have hl := lv_entry ([.ref h, .int i, .long t0, .int c, .int sd, .int fl]) (n := 10) (Nat.le_of_ble_eq_true rfl)
  rw [lg_entry_eq]
  generalize (lg_sl ([.ref h, .int i, .long t0, .int c, .int sd, .int fl]) ++ List.replicate (10 - (lg_sl ([.ref h, .int i, .long t0, .int c, .int sd, .int fl])).length) Slot.unset).toArray = ls at hl ⊢
  have hl : lv_has ls 10 [(0, .ref h), (1, .int i), (2, .long t0), (4, .int c), (5, .int sd), (6, .int fl)] := hl
  refine lv_aload_n hx hb d_Mo_writePiece_0 rfl (lv_at hl 0 rfl) ?_
  refine lv_iload_n hx hb d_Mo_writePiece_1 rfl (lv_at hl 1 rfl) ?_
  refine lv_if_lt (tgt := 33) hx hb d_Mo_writePiece_2 rfl (fun h2 => ?_) (fun h2 => ?_)
  · refine lv_iconst (v := 1) hx hb d_Mo_writePiece_33 (by decide) ?_
    refine lv_goto (tgt := 38) hx hb d_Mo_writePiece_34 rfl ?_
    refine va_put (D := D) (ci := 13) (v := .int 1) (ty := .int) (C := R_Mo) (T := F_Mo) (N := 54) hx hb hts i_Mo t_Mo t_Mo_ok n_Mo hown hK hP hD hS 0 rfl rfl 0 (by decide) (hts _ wd_1088) (fun _ h9 => h9) rfl (by decide +kernel) rfl rfl (Nat.le_of_ble_eq_true rfl) d_Mo_writePiece_38 (fun H locs hP hD hS => ?_)
    have hP : va_P D classes [(h, .inr (13, mO r 1 (nI T.length) le lv pg pn pl rs)), (r 1, .inl (cI, 9400, .inl tp)), (r 51, .inl (cI, 8192, .inl wr)), (r 52, .inl (cI, 4200, .inl ro))] H := hP
    have hD : va_D A [(h, .inr (13, mO r 1 (nI T.length) le lv pg pn pl rs)), (r 1, .inl (cI, 9400, .inl tp)), (r 51, .inl (cI, 8192, .inl wr)), (r 52, .inl (cI, 4200, .inl ro))] := hD
    refine lv_aload_n hx hb d_Mo_writePiece_41 rfl (lv_at hl 0 rfl) ?_
    refine va_get (D := D) (ci := 13) (v := .int 1) (C := R_Mo) (T := F_Mo) (N := 54) hx hb hts i_Mo hown hK hP 0 rfl rfl 0 (by decide) (hts _ wd_1088) (fun _ h9 => h9) rfl d_Mo_writePiece_42 ?_
    refine lv_if_le (tgt := 50) hx hb d_Mo_writePiece_45 rfl (fun h9 => absurd h9 (by decide)) (fun h45 => ?_)
    refine lv_iconst (v := 0) hx hb d_Mo_writePiece_48 (by decide) ?_
    have hP9 := hP.sub (ws' := [(h, .inr (13, mO r 1 (nI T.length) le lv pg pn pl rs)), (r 1, .inl (cI, 9400, .inl tp)), (r 51, .inl (cI, 8192, .inl wr)), (r 52, .inl (cI, 4200, .inl ro))]) [0, 1, 2, 3] rfl
    have hD9 := hD.sub (ws' := [(h, .inr (13, mO r 1 (nI T.length) le lv pg pn pl rs)), (r 1, .inl (cI, 9400, .inl tp)), (r 51, .inl (cI, 8192, .inl wr)), (r 52, .inl (cI, 4200, .inl ro))]) [0, 1, 2, 3] (by decide) rfl
    have hK9 := hK.sub (tys' := [(cI, .int)]) [0] rfl
    exact W.iret (v := 0) hx hb hr (fun t ht hW => ⟨⟨_, (1, nI T.length, rs, tp, wr, ro), rfl, Or.inl ⟨by first | exact Or.inl h2 | exact Or.inr (Or.inl h9) | exact Or.inr (Or.inr (Or.inl h14)) | exact Or.inr (Or.inr (Or.inr (Or.inl h22))) | exact Or.inr (Or.inr (Or.inr (Or.inr h30))), rfl, rfl⟩, ⟨by rw [ht]; exact hP9, va_K.moved hW.alike hK9, hD9⟩⟩, hS.F ht⟩) hS.2.2 d_Mo_writePiece_49
  · refine lv_iload_n hx hb d_Mo_writePiece_5 rfl (lv_at hl 1 rfl) ?_
    refine lv_ldcw hx hb hown (hts _ wd_1467) d_Mo_writePiece_6 ?_
    refine lv_icmp_gt (tgt := 33) hx hb d_Mo_writePiece_9 rfl (fun h9 => ?_) (fun h9 => ?_)
    · refine lv_iconst (v := 1) hx hb d_Mo_writePiece_33 (by decide) ?_
      refine lv_goto (tgt := 38) hx hb d_Mo_writePiece_34 rfl ?_
      refine va_put (D := D) (ci := 13) (v := .int 1) (ty := .int) (C := R_Mo) (T := F_Mo) (N := 54) hx hb hts i_Mo t_Mo t_Mo_ok n_Mo hown hK hP hD hS 0 rfl rfl 0 (by decide) (hts _ wd_1088) (fun _ h9 => h9) rfl (by decide +kernel) rfl rfl (Nat.le_of_ble_eq_true rfl) d_Mo_writePiece_38 (fun H locs hP hD hS => ?_)
      have hP : va_P D classes [(h, .inr (13, mO r 1 (nI T.length) le lv pg pn pl rs)), (r 1, .inl (cI, 9400, .inl tp)), (r 51, .inl (cI, 8192, .inl wr)), (r 52, .inl (cI, 4200, .inl ro))] H := hP
      have hD : va_D A [(h, .inr (13, mO r 1 (nI T.length) le lv pg pn pl rs)), (r 1, .inl (cI, 9400, .inl tp)), (r 51, .inl (cI, 8192, .inl wr)), (r 52, .inl (cI, 4200, .inl ro))] := hD
      refine lv_aload_n hx hb d_Mo_writePiece_41 rfl (lv_at hl 0 rfl) ?_
      refine va_get (D := D) (ci := 13) (v := .int 1) (C := R_Mo) (T := F_Mo) (N := 54) hx hb hts i_Mo hown hK hP 0 rfl rfl 0 (by decide) (hts _ wd_1088) (fun _ h9 => h9) rfl d_Mo_writePiece_42 ?_
      refine lv_if_le (tgt := 50) hx hb d_Mo_writePiece_45 rfl (fun h9 => absurd h9 (by decide)) (fun h45 => ?_)
      refine lv_iconst (v := 0) hx hb d_Mo_writePiece_48 (by decide) ?_
      have hP9 := hP.sub (ws' := [(h, .inr (13, mO r 1 (nI T.length) le lv pg pn pl rs)), (r 1, .inl (cI, 9400, .inl tp)), (r 51, .inl (cI, 8192, .inl wr)), (r 52, .inl (cI, 4200, .inl ro))]) [0, 1, 2, 3] rfl
      have hD9 := hD.sub (ws' := [(h, .inr (13, mO r 1 (nI T.length) le lv pg pn pl rs)), (r 1, .inl (cI, 9400, .inl tp)), (r 51, .inl (cI, 8192, .inl wr)), (r 52, .inl (cI, 4200, .inl ro))]) [0, 1, 2, 3] (by decide) rfl
      have hK9 := hK.sub (tys' := [(cI, .int)]) [0] rfl
      exact W.iret (v := 0) hx hb hr (fun t ht hW => ⟨⟨_, (1, nI T.length, rs, tp, wr, ro), rfl, Or.inl ⟨by first | exact Or.inl h2 | exact Or.inr (Or.inl h9) | exact Or.inr (Or.inr (Or.inl h14)) | exact Or.inr (Or.inr (Or.inr (Or.inl h22))) | exact Or.inr (Or.inr (Or.inr (Or.inr h30))), rfl, rfl⟩, ⟨by rw [ht]; exact hP9, va_K.moved hW.alike hK9, hD9⟩⟩, hS.F ht⟩) hS.2.2 d_Mo_writePiece_49
    · refine lv_iload hx hb d_Mo_writePiece_12 (lv_at hl 3 rfl) ?_
      refine lv_if_lt (tgt := 33) hx hb d_Mo_writePiece_14 rfl (fun h14 => ?_) (fun h14 => ?_)
      · refine lv_iconst (v := 1) hx hb d_Mo_writePiece_33 (by decide) ?_
        refine lv_goto (tgt := 38) hx hb d_Mo_writePiece_34 rfl ?_
        refine va_put (D := D) (ci := 13) (v := .int 1) (ty := .int) (C := R_Mo) (T := F_Mo) (N := 54) hx hb hts i_Mo t_Mo t_Mo_ok n_Mo hown hK hP hD hS 0 rfl rfl 0 (by decide) (hts _ wd_1088) (fun _ h9 => h9) rfl (by decide +kernel) rfl rfl (Nat.le_of_ble_eq_true rfl) d_Mo_writePiece_38 (fun H locs hP hD hS => ?_)
        have hP : va_P D classes [(h, .inr (13, mO r 1 (nI T.length) le lv pg pn pl rs)), (r 1, .inl (cI, 9400, .inl tp)), (r 51, .inl (cI, 8192, .inl wr)), (r 52, .inl (cI, 4200, .inl ro))] H := hP
        have hD : va_D A [(h, .inr (13, mO r 1 (nI T.length) le lv pg pn pl rs)), (r 1, .inl (cI, 9400, .inl tp)), (r 51, .inl (cI, 8192, .inl wr)), (r 52, .inl (cI, 4200, .inl ro))] := hD
        refine lv_aload_n hx hb d_Mo_writePiece_41 rfl (lv_at hl 0 rfl) ?_
        refine va_get (D := D) (ci := 13) (v := .int 1) (C := R_Mo) (T := F_Mo) (N := 54) hx hb hts i_Mo hown hK hP 0 rfl rfl 0 (by decide) (hts _ wd_1088) (fun _ h9 => h9) rfl d_Mo_writePiece_42 ?_
        refine lv_if_le (tgt := 50) hx hb d_Mo_writePiece_45 rfl (fun h9 => absurd h9 (by decide)) (fun h45 => ?_)
        refine lv_iconst (v := 0) hx hb d_Mo_writePiece_48 (by decide) ?_
        have hP9 := hP.sub (ws' := [(h, .inr (13, mO r 1 (nI T.length) le lv pg pn pl rs)), (r 1, .inl (cI, 9400, .inl tp)), (r 51, .inl (cI, 8192, .inl wr)), (r 52, .inl (cI, 4200, .inl ro))]) [0, 1, 2, 3] rfl
        have hD9 := hD.sub (ws' := [(h, .inr (13, mO r 1 (nI T.length) le lv pg pn pl rs)), (r 1, .inl (cI, 9400, .inl tp)), (r 51, .inl (cI, 8192, .inl wr)), (r 52, .inl (cI, 4200, .inl ro))]) [0, 1, 2, 3] (by decide) rfl
        have hK9 := hK.sub (tys' := [(cI, .int)]) [0] rfl
        exact W.iret (v := 0) hx hb hr (fun t ht hW => ⟨⟨_, (1, nI T.length, rs, tp, wr, ro), rfl, Or.inl ⟨by first | exact Or.inl h2 | exact Or.inr (Or.inl h9) | exact Or.inr (Or.inr (Or.inl h14)) | exact Or.inr (Or.inr (Or.inr (Or.inl h22))) | exact Or.inr (Or.inr (Or.inr (Or.inr h30))), rfl, rfl⟩, ⟨by rw [ht]; exact hP9, va_K.moved hW.alike hK9, hD9⟩⟩, hS.F ht⟩) hS.2.2 d_Mo_writePiece_49
      · refine lv_iload hx hb d_Mo_writePiece_17 (lv_at hl 3 rfl) ?_
        refine lv_sipush (v := 4000) hx hb d_Mo_writePiece_19 (by decide) ?_
        refine lv_icmp_gt (tgt := 33) hx hb d_Mo_writePiece_22 rfl (fun h22 => ?_) (fun h22 => ?_)
        · refine lv_iconst (v := 1) hx hb d_Mo_writePiece_33 (by decide) ?_
          refine lv_goto (tgt := 38) hx hb d_Mo_writePiece_34 rfl ?_
          refine va_put (D := D) (ci := 13) (v := .int 1) (ty := .int) (C := R_Mo) (T := F_Mo) (N := 54) hx hb hts i_Mo t_Mo t_Mo_ok n_Mo hown hK hP hD hS 0 rfl rfl 0 (by decide) (hts _ wd_1088) (fun _ h9 => h9) rfl (by decide +kernel) rfl rfl (Nat.le_of_ble_eq_true rfl) d_Mo_writePiece_38 (fun H locs hP hD hS => ?_)
          have hP : va_P D classes [(h, .inr (13, mO r 1 (nI T.length) le lv pg pn pl rs)), (r 1, .inl (cI, 9400, .inl tp)), (r 51, .inl (cI, 8192, .inl wr)), (r 52, .inl (cI, 4200, .inl ro))] H := hP
          have hD : va_D A [(h, .inr (13, mO r 1 (nI T.length) le lv pg pn pl rs)), (r 1, .inl (cI, 9400, .inl tp)), (r 51, .inl (cI, 8192, .inl wr)), (r 52, .inl (cI, 4200, .inl ro))] := hD
          refine lv_aload_n hx hb d_Mo_writePiece_41 rfl (lv_at hl 0 rfl) ?_
          refine va_get (D := D) (ci := 13) (v := .int 1) (C := R_Mo) (T := F_Mo) (N := 54) hx hb hts i_Mo hown hK hP 0 rfl rfl 0 (by decide) (hts _ wd_1088) (fun _ h9 => h9) rfl d_Mo_writePiece_42 ?_
          refine lv_if_le (tgt := 50) hx hb d_Mo_writePiece_45 rfl (fun h9 => absurd h9 (by decide)) (fun h45 => ?_)
          refine lv_iconst (v := 0) hx hb d_Mo_writePiece_48 (by decide) ?_
          have hP9 := hP.sub (ws' := [(h, .inr (13, mO r 1 (nI T.length) le lv pg pn pl rs)), (r 1, .inl (cI, 9400, .inl tp)), (r 51, .inl (cI, 8192, .inl wr)), (r 52, .inl (cI, 4200, .inl ro))]) [0, 1, 2, 3] rfl
          have hD9 := hD.sub (ws' := [(h, .inr (13, mO r 1 (nI T.length) le lv pg pn pl rs)), (r 1, .inl (cI, 9400, .inl tp)), (r 51, .inl (cI, 8192, .inl wr)), (r 52, .inl (cI, 4200, .inl ro))]) [0, 1, 2, 3] (by decide) rfl
          have hK9 := hK.sub (tys' := [(cI, .int)]) [0] rfl
          exact W.iret (v := 0) hx hb hr (fun t ht hW => ⟨⟨_, (1, nI T.length, rs, tp, wr, ro), rfl, Or.inl ⟨by first | exact Or.inl h2 | exact Or.inr (Or.inl h9) | exact Or.inr (Or.inr (Or.inl h14)) | exact Or.inr (Or.inr (Or.inr (Or.inl h22))) | exact Or.inr (Or.inr (Or.inr (Or.inr h30))), rfl, rfl⟩, ⟨by rw [ht]; exact hP9, va_K.moved hW.alike hK9, hD9⟩⟩, hS.F ht⟩) hS.2.2 d_Mo_writePiece_49
        · refine lv_lload_n hx hb d_Mo_writePiece_25 rfl (lv_at hl 2 rfl) ?_
          refine lv_ldc2 hx hb hown (hts _ wd_1335) d_Mo_writePiece_26 ?_
          refine W.lcmp hx hb d_Mo_writePiece_29 ?_
          refine lv_if_lt (tgt := 37) hx hb d_Mo_writePiece_30 rfl (fun h30 => ?_) (fun h30 => ?_)
          · have h30 := (lg_cmp_lt _ _).mp h30
            obtain ⟨i9, hi9, hie⟩ := nI_of2 (x := i) (M := 2097151) (n := 2097151) (by decide) h2 (Int32.not_lt.mp h9)
            obtain ⟨n, hn4, hce⟩ := nI_of2 (x := c) (M := 4000) (n := 4000) (by decide) h14 (Int32.not_lt.mp h22)
            subst hie
            subst hce
            have htx := tx_le t0
            refine lv_iconst (v := 0) hx hb d_Mo_writePiece_37 (by decide) ?_
            refine va_put (D := D) (ci := 13) (v := .int 0) (ty := .int) (C := R_Mo) (T := F_Mo) (N := 54) hx hb hts i_Mo t_Mo t_Mo_ok n_Mo hown hK hP hD hS 0 rfl rfl 0 (by decide) (hts _ wd_1088) (fun _ h9 => h9) rfl (by decide +kernel) rfl rfl (Nat.le_of_ble_eq_true rfl) d_Mo_writePiece_38 (fun H locs hP hD hS => ?_)
            have hP : va_P D classes [(h, .inr (13, mO r 0 (nI T.length) le lv pg pn pl rs)), (r 1, .inl (cI, 9400, .inl tp)), (r 51, .inl (cI, 8192, .inl wr)), (r 52, .inl (cI, 4200, .inl ro))] H := hP
            have hD : va_D A [(h, .inr (13, mO r 0 (nI T.length) le lv pg pn pl rs)), (r 1, .inl (cI, 9400, .inl tp)), (r 51, .inl (cI, 8192, .inl wr)), (r 52, .inl (cI, 4200, .inl ro))] := hD
            refine lv_aload_n hx hb d_Mo_writePiece_41 rfl (lv_at hl 0 rfl) ?_
            refine va_get (D := D) (ci := 13) (v := .int 0) (C := R_Mo) (T := F_Mo) (N := 54) hx hb hts i_Mo hown hK hP 0 rfl rfl 0 (by decide) (hts _ wd_1088) (fun _ h9 => h9) rfl d_Mo_writePiece_42 ?_
            refine lv_if_le (tgt := 50) hx hb d_Mo_writePiece_45 rfl (fun h45 => ?_) (fun h9 => absurd h9 (by decide))
            refine lv_lload_n hx hb d_Mo_writePiece_50 rfl (lv_at hl 2 rfl) ?_
            refine lv_lconst (v := 0) hx hb d_Mo_writePiece_51 (by decide) ?_
            refine W.lcmp hx hb d_Mo_writePiece_52 ?_
            suffices key53 : W p l e ({ frames := 1, cells := 0, slots := 0, locals := 25 }) s m ([.ref h, .int (nI i9), .long t0, .int (nI n), .int sd, .int fl]).toArray below meth cd H locs 0 0 (MQ below (va_Qi (fun r0 (u : MWQ) => (((nI i9) < 0 ∨ 2097151 < (nI i9) ∨ (nI n) < 0 ∨ 4000 < (nI n) ∨ 8589934592 ≤ t0) ∧ r0 = 0 ∧ u = (1, nI T.length, rs, tp, wr, ro)) ∨ (∃ a9 b9 : Nat, (nI i9) = nI a9 ∧ a9 ≤ 2097151 ∧ (nI n) = nI b9 ∧ b9 ≤ 4000 ∧ t0 < 8589934592 ∧ ((¬ wpRm T.length t0 b9 ∧ r0 = -1 ∧ u = (0, nI T.length, rs, tp, wr, ro)) ∨ (wpRm T.length t0 b9 ∧ MW T (mpL (nI (a9 / 8192)) t0 (if fl = 0 then 0 else (nI (b9 + 3 + tx t0)).toInt64) sd b9) (a9 % 8192) wf wr u r0)))) (fun (u : MWQ) t => zW D (A) [(h, .inr (13, mO r u.1 u.2.1 le lv pg pn pl u.2.2.1)), (r 1, .inl (cI, 9400, .inl u.2.2.2.1)), (r 51, .inl (cI, 8192, .inl u.2.2.2.2.1)), (r 52, .inl (cI, 4200, .inl u.2.2.2.2.2))] [(cI, .int)] t) (A)) ([.ref h, .int (nI i9), .long t0, .int (nI n), .int sd, .int fl]).toArray s 0 0 (A)) (F0 m 61 ls [.int (nI (tx t0))]) by
              refine lv_if_ge (tgt := 60) hx hb d_Mo_writePiece_53 rfl (fun h53 => ?_) (fun h53 => ?_)
              · refine lv_iconst (v := 5) hx hb d_Mo_writePiece_60 (by decide) ?_
                refine z_topi (w := (nI (tx t0))) (by unfold tx; rw [if_neg (Int64.not_lt.mpr ((lg_cmp_ge _ _).mp h53))]; rfl) ?_
                exact key53
              · refine lv_iconst (v := 0) hx hb d_Mo_writePiece_56 (by decide) ?_
                refine lv_goto (tgt := 61) hx hb d_Mo_writePiece_57 rfl ?_
                refine z_topi (w := (nI (tx t0))) (by unfold tx; rw [if_pos (Int64.not_le.mp (mt (lg_cmp_ge _ _).mpr h53))]; rfl) ?_
                exact key53
            refine lv_istore (lv' := [(7, .int (nI (tx t0))), (0, .ref h), (1, .int (nI i9)), (2, .long t0), (4, .int (nI n)), (5, .int sd), (6, .int fl)]) hx hb d_Mo_writePiece_61 hl (by decide) rfl (fun ls hl => ?_)
            refine lv_aload_n hx hb d_Mo_writePiece_63 rfl (lv_at hl 1 rfl) ?_
            refine lv_bipush (v := 9) hx hb d_Mo_writePiece_64 (by decide) ?_
            refine lv_iload hx hb d_Mo_writePiece_66 (lv_at hl 0 rfl) ?_
            refine lv_iadd hx hb d_Mo_writePiece_68 ?_
            refine z_topi (w := nI (9 + tx t0)) (nI_add 9 _) ?_
            refine lv_iload hx hb d_Mo_writePiece_69 (lv_at hl 4 rfl) ?_
            refine lv_iadd hx hb d_Mo_writePiece_71 ?_
            refine z_topi (w := nI (9 + tx t0 + n)) (nI_add _ _) ?_
            have hPc := hP.sub (ws' := [(h, .inr (13, mO r 0 (nI T.length) le lv pg pn pl rs))]) [0] rfl
            have hKc := hK.sub (tys' := []) [] rfl
            refine z_ci (va_runV (As := [.int (nI (9 + tx t0 + n))]) (rest := []) ⟨hx, hb, hml, hown, hts⟩ (c_Mo_hasRoom l D cI h r 0 le lv pg pn pl rs T.length (9 + tx t0 + n) hn (by omega)) (z_cV hN wd_1443 wd_67 wd_1440 hd_Mo_hasRoom rfl rfl ⟨Nat.le_of_ble_eq_true rfl, Nat.le_of_ble_eq_true rfl⟩ wd_1442 wd_53) (z_preV (va_recv (ci := 13) (q0 := 0) hK hP rfl rfl) hPc hKc hN) rfl rfl hl.1 rfl (lv_room (Nat.le_of_ble_eq_true rfl)) d_Mo_writePiece_72 ⟨Nat.le_of_ble_eq_true rfl, Nat.le_of_ble_eq_true rfl⟩) (fun r72 e72 => ?_)
            subst e72
            refine lv_if_ne (tgt := 80) hx hb d_Mo_writePiece_75 rfl (fun h75 => ?_) (fun h75 => ?_)
            · have h75 := mp_room h75
              refine lv_aload_n hx hb d_Mo_writePiece_80 rfl (lv_at hl 1 rfl) ?_
              refine lv_iconst (v := 0) hx hb d_Mo_writePiece_81 (by decide) ?_
              refine va_put (D := D) (ci := 13) (v := .int 0) (ty := .int) (C := R_Mo) (T := F_Mo) (N := 54) hx hb hts i_Mo t_Mo t_Mo_ok n_Mo hown hK hP hD hS 0 rfl rfl 53 (by decide) (hts _ wd_1141) (fun _ h9 => h9) rfl (by decide +kernel) rfl rfl (Nat.le_of_ble_eq_true rfl) d_Mo_writePiece_82 (fun H locs hP hD hS => ?_)
              have hP : va_P D classes [(h, .inr (13, mO r 0 (nI T.length) le lv pg pn pl 0)), (r 1, .inl (cI, 9400, .inl tp)), (r 51, .inl (cI, 8192, .inl wr)), (r 52, .inl (cI, 4200, .inl ro))] H := hP
              have hD : va_D A [(h, .inr (13, mO r 0 (nI T.length) le lv pg pn pl 0)), (r 1, .inl (cI, 9400, .inl tp)), (r 51, .inl (cI, 8192, .inl wr)), (r 52, .inl (cI, 4200, .inl ro))] := hD
              refine lv_aload_n hx hb d_Mo_writePiece_85 rfl (lv_at hl 1 rfl) ?_
              refine lv_lconst (v := 1) hx hb d_Mo_writePiece_86 (by decide) ?_
              refine lv_iconst (v := 3) hx hb d_Mo_writePiece_87 (by decide) ?_
              have hPc := hP.sub (ws' := [(h, .inr (13, mO r 0 (nI T.length) le lv pg pn pl (nI ([] : List Int32).length))), (r 52, .inl (cI, 4200, .inl ro))]) [0, 3] rfl
              have hKc := hK.sub (tys' := [(cI, .int)]) [0] rfl
              have hDc := hD.sub (ws' := [(h, .inr (13, mO r 0 (nI T.length) le lv pg pn pl (nI ([] : List Int32).length))), (r 52, .inl (cI, 4200, .inl ro))]) [0, 3] (by decide) rfl
              have hFc := va_free (wc := [(h, .inr (13, mO r 0 (nI T.length) le lv pg pn pl (nI ([] : List Int32).length))), (r 52, .inl (cI, 4200, .inl ro))]) hD hS hA [0, 3] rfl
              refine va_callv (va_runV (As := [.long 1, .int (nI 3)]) (rest := []) ⟨hx, hb, hml, hown, hts⟩ (c_Mo_put l D H.size cI h r 0 (nI T.length) le lv pg pn pl ([] : List Int32) ro 1 3 rl_nil (by (try simp only [List.length_append, bs_len, List.length_nil]); omega) (by omega) (by omega)) (z_cV hN wd_1451 wd_67 wd_1448 hd_Mo_put rfl rfl ⟨Nat.le_of_ble_eq_true rfl, Nat.le_of_ble_eq_true rfl⟩ wd_1450 wd_55) (z_preVm (va_recv (ci := 13) (q0 := 0) hK hP rfl rfl) hPc hKc hN hDc) rfl rfl hl.1 rfl (lv_room (Nat.le_of_ble_eq_true rfl)) d_Mo_writePiece_88 ⟨Nat.le_of_ble_eq_true rfl, Nat.le_of_ble_eq_true rfl⟩) hS (fun q _ h => hFc q h) hFc (fun g88 t H locs ht hvm e88 hB hz1 hk1 hS => ?_)
              obtain ⟨hP1, hK1, hD1⟩ := hB
              rw [ht] at hP1
              obtain ⟨hP, hD⟩ := va_join (wr := [(r 1, .inl (cI, 9400, .inl tp)), (r 51, .inl (cI, 8192, .inl wr))]) (w1 := [(h, .inr (13, mO r 0 (nI T.length) le lv pg pn pl (nI (([] : List Int32) ++ bsL 1 3).length))), (r 52, .inl (cI, 4200, .inl g88))]) hP hD [0, 3] [1, 2] rfl rfl (by decide) (by decide) hk1 hFc hP1 hD1
              clear hk1 hP1 hD1 hFc hPc hDc hz1
              have hP : va_P D classes [(r 1, .inl (cI, 9400, .inl tp)), (r 51, .inl (cI, 8192, .inl wr)), (h, .inr (13, mO r 0 (nI T.length) le lv pg pn pl (nI (([] : List Int32) ++ bsL 1 3).length))), (r 52, .inl (cI, 4200, .inl g88))] H := hP
              have hD : va_D A [(r 1, .inl (cI, 9400, .inl tp)), (r 51, .inl (cI, 8192, .inl wr)), (h, .inr (13, mO r 0 (nI T.length) le lv pg pn pl (nI (([] : List Int32) ++ bsL 1 3).length))), (r 52, .inl (cI, 4200, .inl g88))] := hD
              refine lv_aload_n hx hb d_Mo_writePiece_91 rfl (lv_at hl 1 rfl) ?_
              refine lv_iload_n hx hb d_Mo_writePiece_92 rfl (lv_at hl 2 rfl) ?_
              refine lv_sipush (v := 8192) hx hb d_Mo_writePiece_93 (by decide) ?_
              refine lv_idiv hx hb d_Mo_writePiece_96 (by decide) ?_
              refine z_topi (w := nI (i9 / 8192)) (pk_div (d := 8192) (by omega) (by omega) (by omega)) ?_
              refine lv_i2l (v := (nI (i9 / 8192)).toInt64) hx hb d_Mo_writePiece_97 rfl ?_
              refine lv_iconst (v := 1) hx hb d_Mo_writePiece_98 (by decide) ?_
              have hPc := hP.sub (ws' := [(h, .inr (13, mO r 0 (nI T.length) le lv pg pn pl (nI (([] : List Int32) ++ bsL 1 3).length))), (r 52, .inl (cI, 4200, .inl g88))]) [2, 3] rfl
              have hKc := hK.sub (tys' := [(cI, .int)]) [0] rfl
              have hDc := hD.sub (ws' := [(h, .inr (13, mO r 0 (nI T.length) le lv pg pn pl (nI (([] : List Int32) ++ bsL 1 3).length))), (r 52, .inl (cI, 4200, .inl g88))]) [2, 3] (by decide) rfl
              have hFc := va_free (wc := [(h, .inr (13, mO r 0 (nI T.length) le lv pg pn pl (nI (([] : List Int32) ++ bsL 1 3).length))), (r 52, .inl (cI, 4200, .inl g88))]) hD hS hA [2, 3] rfl
              refine va_callv (va_runV (As := [.long ((nI (i9 / 8192)).toInt64), .int (nI 1)]) (rest := []) ⟨hx, hb, hml, hown, hts⟩ (c_Mo_put l D H.size cI h r 0 (nI T.length) le lv pg pn pl (([] : List Int32) ++ bsL 1 3) g88 ((nI (i9 / 8192)).toInt64) 1 e88 (by (try simp only [List.length_append, bs_len, List.length_nil]); omega) (by omega) (by omega)) (z_cV hN wd_1451 wd_67 wd_1448 hd_Mo_put rfl rfl ⟨Nat.le_of_ble_eq_true rfl, Nat.le_of_ble_eq_true rfl⟩ wd_1450 wd_55) (z_preVm (va_recv (ci := 13) (q0 := 2) hK hP rfl rfl) hPc hKc hN hDc) rfl rfl hl.1 rfl (lv_room (Nat.le_of_ble_eq_true rfl)) d_Mo_writePiece_99 ⟨Nat.le_of_ble_eq_true rfl, Nat.le_of_ble_eq_true rfl⟩) hS (fun q _ h => hFc q h) hFc (fun g99 t H locs ht hvm e99 hB hz1 hk1 hS => ?_)
              obtain ⟨hP1, hK1, hD1⟩ := hB
              rw [ht] at hP1
              obtain ⟨hP, hD⟩ := va_join (wr := [(r 1, .inl (cI, 9400, .inl tp)), (r 51, .inl (cI, 8192, .inl wr))]) (w1 := [(h, .inr (13, mO r 0 (nI T.length) le lv pg pn pl (nI ((([] : List Int32) ++ bsL 1 3) ++ bsL ((nI (i9 / 8192)).toInt64) 1).length))), (r 52, .inl (cI, 4200, .inl g99))]) hP hD [2, 3] [0, 1] rfl rfl (by decide) (by decide) hk1 hFc hP1 hD1
              clear hk1 hP1 hD1 hFc hPc hDc hz1
              have hP : va_P D classes [(r 1, .inl (cI, 9400, .inl tp)), (r 51, .inl (cI, 8192, .inl wr)), (h, .inr (13, mO r 0 (nI T.length) le lv pg pn pl (nI ((([] : List Int32) ++ bsL 1 3) ++ bsL ((nI (i9 / 8192)).toInt64) 1).length))), (r 52, .inl (cI, 4200, .inl g99))] H := hP
              have hD : va_D A [(r 1, .inl (cI, 9400, .inl tp)), (r 51, .inl (cI, 8192, .inl wr)), (h, .inr (13, mO r 0 (nI T.length) le lv pg pn pl (nI ((([] : List Int32) ++ bsL 1 3) ++ bsL ((nI (i9 / 8192)).toInt64) 1).length))), (r 52, .inl (cI, 4200, .inl g99))] := hD
              refine lv_aload_n hx hb d_Mo_writePiece_102 rfl (lv_at hl 1 rfl) ?_
              refine lv_iload hx hb d_Mo_writePiece_103 (lv_at hl 6 rfl) ?_
              suffices key105 : W p l e ({ frames := 1, cells := 0, slots := 0, locals := 25 }) s m ([.ref h, .int (nI i9), .long t0, .int (nI n), .int sd, .int fl]).toArray below meth cd H locs 0 0 (MQ below (va_Qi (fun r0 (u : MWQ) => (((nI i9) < 0 ∨ 2097151 < (nI i9) ∨ (nI n) < 0 ∨ 4000 < (nI n) ∨ 8589934592 ≤ t0) ∧ r0 = 0 ∧ u = (1, nI T.length, rs, tp, wr, ro)) ∨ (∃ a9 b9 : Nat, (nI i9) = nI a9 ∧ a9 ≤ 2097151 ∧ (nI n) = nI b9 ∧ b9 ≤ 4000 ∧ t0 < 8589934592 ∧ ((¬ wpRm T.length t0 b9 ∧ r0 = -1 ∧ u = (0, nI T.length, rs, tp, wr, ro)) ∨ (wpRm T.length t0 b9 ∧ MW T (mpL (nI (a9 / 8192)) t0 (if fl = 0 then 0 else (nI (b9 + 3 + tx t0)).toInt64) sd b9) (a9 % 8192) wf wr u r0)))) (fun (u : MWQ) t => zW D (A) [(h, .inr (13, mO r u.1 u.2.1 le lv pg pn pl u.2.2.1)), (r 1, .inl (cI, 9400, .inl u.2.2.2.1)), (r 51, .inl (cI, 8192, .inl u.2.2.2.2.1)), (r 52, .inl (cI, 4200, .inl u.2.2.2.2.2))] [(cI, .int)] t) (A)) ([.ref h, .int (nI i9), .long t0, .int (nI n), .int sd, .int fl]).toArray s 0 0 (A)) (F0 m 120 ls [.long (if fl = 0 then 0 else (nI (n + 3 + tx t0)).toInt64), .ref h]) by
                refine lv_if_eq (tgt := 119) hx hb d_Mo_writePiece_105 rfl (fun h105 => ?_) (fun h105 => ?_)
                · refine lv_lconst (v := 0) hx hb d_Mo_writePiece_119 (by decide) ?_
                  refine z_topl (w := (if fl = 0 then 0 else (nI (n + 3 + tx t0)).toInt64)) ((if_pos h105).symm) ?_
                  exact key105
                · refine lv_iload hx hb d_Mo_writePiece_108 (lv_at hl 4 rfl) ?_
                  refine lv_iconst (v := 3) hx hb d_Mo_writePiece_110 (by decide) ?_
                  refine lv_iadd hx hb d_Mo_writePiece_111 ?_
                  refine z_topi (w := nI (n + 3)) (nI_add n 3) ?_
                  refine lv_iload hx hb d_Mo_writePiece_112 (lv_at hl 0 rfl) ?_
                  refine lv_iadd hx hb d_Mo_writePiece_114 ?_
                  refine z_topi (w := nI (n + 3 + tx t0)) (nI_add _ _) ?_
                  refine lv_i2l (v := (nI (n + 3 + tx t0)).toInt64) hx hb d_Mo_writePiece_115 rfl ?_
                  refine lv_goto (tgt := 120) hx hb d_Mo_writePiece_116 rfl ?_
                  refine z_topl (w := (if fl = 0 then 0 else (nI (n + 3 + tx t0)).toInt64)) ((if_neg h105).symm) ?_
                  exact key105
              refine lv_iconst (v := 2) hx hb d_Mo_writePiece_120 (by decide) ?_
              have hPc := hP.sub (ws' := [(h, .inr (13, mO r 0 (nI T.length) le lv pg pn pl (nI ((([] : List Int32) ++ bsL 1 3) ++ bsL ((nI (i9 / 8192)).toInt64) 1).length))), (r 52, .inl (cI, 4200, .inl g99))]) [2, 3] rfl
              have hKc := hK.sub (tys' := [(cI, .int)]) [0] rfl
              have hDc := hD.sub (ws' := [(h, .inr (13, mO r 0 (nI T.length) le lv pg pn pl (nI ((([] : List Int32) ++ bsL 1 3) ++ bsL ((nI (i9 / 8192)).toInt64) 1).length))), (r 52, .inl (cI, 4200, .inl g99))]) [2, 3] (by decide) rfl
              have hFc := va_free (wc := [(h, .inr (13, mO r 0 (nI T.length) le lv pg pn pl (nI ((([] : List Int32) ++ bsL 1 3) ++ bsL ((nI (i9 / 8192)).toInt64) 1).length))), (r 52, .inl (cI, 4200, .inl g99))]) hD hS hA [2, 3] rfl
              refine va_callv (va_runV (As := [.long (if fl = 0 then 0 else (nI (n + 3 + tx t0)).toInt64), .int (nI 2)]) (rest := []) ⟨hx, hb, hml, hown, hts⟩ (c_Mo_put l D H.size cI h r 0 (nI T.length) le lv pg pn pl ((([] : List Int32) ++ bsL 1 3) ++ bsL ((nI (i9 / 8192)).toInt64) 1) g99 (if fl = 0 then 0 else (nI (n + 3 + tx t0)).toInt64) 2 e99 (by (try simp only [List.length_append, bs_len, List.length_nil]); omega) (by omega) (by omega)) (z_cV hN wd_1451 wd_67 wd_1448 hd_Mo_put rfl rfl ⟨Nat.le_of_ble_eq_true rfl, Nat.le_of_ble_eq_true rfl⟩ wd_1450 wd_55) (z_preVm (va_recv (ci := 13) (q0 := 2) hK hP rfl rfl) hPc hKc hN hDc) rfl rfl hl.1 rfl (lv_room (Nat.le_of_ble_eq_true rfl)) d_Mo_writePiece_121 ⟨Nat.le_of_ble_eq_true rfl, Nat.le_of_ble_eq_true rfl⟩) hS (fun q _ h => hFc q h) hFc (fun g121 t H locs ht hvm e121 hB hz1 hk1 hS => ?_)
              obtain ⟨hP1, hK1, hD1⟩ := hB
              rw [ht] at hP1
              obtain ⟨hP, hD⟩ := va_join (wr := [(r 1, .inl (cI, 9400, .inl tp)), (r 51, .inl (cI, 8192, .inl wr))]) (w1 := [(h, .inr (13, mO r 0 (nI T.length) le lv pg pn pl (nI (((([] : List Int32) ++ bsL 1 3) ++ bsL ((nI (i9 / 8192)).toInt64) 1) ++ bsL (if fl = 0 then 0 else (nI (n + 3 + tx t0)).toInt64) 2).length))), (r 52, .inl (cI, 4200, .inl g121))]) hP hD [2, 3] [0, 1] rfl rfl (by decide) (by decide) hk1 hFc hP1 hD1
              clear hk1 hP1 hD1 hFc hPc hDc hz1
              have hP : va_P D classes [(r 1, .inl (cI, 9400, .inl tp)), (r 51, .inl (cI, 8192, .inl wr)), (h, .inr (13, mO r 0 (nI T.length) le lv pg pn pl (nI (((([] : List Int32) ++ bsL 1 3) ++ bsL ((nI (i9 / 8192)).toInt64) 1) ++ bsL (if fl = 0 then 0 else (nI (n + 3 + tx t0)).toInt64) 2).length))), (r 52, .inl (cI, 4200, .inl g121))] H := hP
              have hD : va_D A [(r 1, .inl (cI, 9400, .inl tp)), (r 51, .inl (cI, 8192, .inl wr)), (h, .inr (13, mO r 0 (nI T.length) le lv pg pn pl (nI (((([] : List Int32) ++ bsL 1 3) ++ bsL ((nI (i9 / 8192)).toInt64) 1) ++ bsL (if fl = 0 then 0 else (nI (n + 3 + tx t0)).toInt64) 2).length))), (r 52, .inl (cI, 4200, .inl g121))] := hD
              refine lv_aload_n hx hb d_Mo_writePiece_124 rfl (lv_at hl 1 rfl) ?_
              refine lv_ldc2 hx hb hown (hts _ wd_1468) d_Mo_writePiece_125 ?_
              refine lv_iconst (v := 1) hx hb d_Mo_writePiece_128 (by decide) ?_
              have hPc := hP.sub (ws' := [(h, .inr (13, mO r 0 (nI T.length) le lv pg pn pl (nI (((([] : List Int32) ++ bsL 1 3) ++ bsL ((nI (i9 / 8192)).toInt64) 1) ++ bsL (if fl = 0 then 0 else (nI (n + 3 + tx t0)).toInt64) 2).length))), (r 52, .inl (cI, 4200, .inl g121))]) [2, 3] rfl
              have hKc := hK.sub (tys' := [(cI, .int)]) [0] rfl
              have hDc := hD.sub (ws' := [(h, .inr (13, mO r 0 (nI T.length) le lv pg pn pl (nI (((([] : List Int32) ++ bsL 1 3) ++ bsL ((nI (i9 / 8192)).toInt64) 1) ++ bsL (if fl = 0 then 0 else (nI (n + 3 + tx t0)).toInt64) 2).length))), (r 52, .inl (cI, 4200, .inl g121))]) [2, 3] (by decide) rfl
              have hFc := va_free (wc := [(h, .inr (13, mO r 0 (nI T.length) le lv pg pn pl (nI (((([] : List Int32) ++ bsL 1 3) ++ bsL ((nI (i9 / 8192)).toInt64) 1) ++ bsL (if fl = 0 then 0 else (nI (n + 3 + tx t0)).toInt64) 2).length))), (r 52, .inl (cI, 4200, .inl g121))]) hD hS hA [2, 3] rfl
              refine va_callv (va_runV (As := [.long 128, .int (nI 1)]) (rest := []) ⟨hx, hb, hml, hown, hts⟩ (c_Mo_put l D H.size cI h r 0 (nI T.length) le lv pg pn pl (((([] : List Int32) ++ bsL 1 3) ++ bsL ((nI (i9 / 8192)).toInt64) 1) ++ bsL (if fl = 0 then 0 else (nI (n + 3 + tx t0)).toInt64) 2) g121 128 1 e121 (by (try simp only [List.length_append, bs_len, List.length_nil]); omega) (by omega) (by omega)) (z_cV hN wd_1451 wd_67 wd_1448 hd_Mo_put rfl rfl ⟨Nat.le_of_ble_eq_true rfl, Nat.le_of_ble_eq_true rfl⟩ wd_1450 wd_55) (z_preVm (va_recv (ci := 13) (q0 := 2) hK hP rfl rfl) hPc hKc hN hDc) rfl rfl hl.1 rfl (lv_room (Nat.le_of_ble_eq_true rfl)) d_Mo_writePiece_129 ⟨Nat.le_of_ble_eq_true rfl, Nat.le_of_ble_eq_true rfl⟩) hS (fun q _ h => hFc q h) hFc (fun g129 t H locs ht hvm e129 hB hz1 hk1 hS => ?_)
              obtain ⟨hP1, hK1, hD1⟩ := hB
              rw [ht] at hP1
              obtain ⟨hP, hD⟩ := va_join (wr := [(r 1, .inl (cI, 9400, .inl tp)), (r 51, .inl (cI, 8192, .inl wr))]) (w1 := [(h, .inr (13, mO r 0 (nI T.length) le lv pg pn pl (nI ((((([] : List Int32) ++ bsL 1 3) ++ bsL ((nI (i9 / 8192)).toInt64) 1) ++ bsL (if fl = 0 then 0 else (nI (n + 3 + tx t0)).toInt64) 2) ++ bsL 128 1).length))), (r 52, .inl (cI, 4200, .inl g129))]) hP hD [2, 3] [0, 1] rfl rfl (by decide) (by decide) hk1 hFc hP1 hD1
              clear hk1 hP1 hD1 hFc hPc hDc hz1
              have hP : va_P D classes [(r 1, .inl (cI, 9400, .inl tp)), (r 51, .inl (cI, 8192, .inl wr)), (h, .inr (13, mO r 0 (nI T.length) le lv pg pn pl (nI ((((([] : List Int32) ++ bsL 1 3) ++ bsL ((nI (i9 / 8192)).toInt64) 1) ++ bsL (if fl = 0 then 0 else (nI (n + 3 + tx t0)).toInt64) 2) ++ bsL 128 1).length))), (r 52, .inl (cI, 4200, .inl g129))] H := hP
              have hD : va_D A [(r 1, .inl (cI, 9400, .inl tp)), (r 51, .inl (cI, 8192, .inl wr)), (h, .inr (13, mO r 0 (nI T.length) le lv pg pn pl (nI ((((([] : List Int32) ++ bsL 1 3) ++ bsL ((nI (i9 / 8192)).toInt64) 1) ++ bsL (if fl = 0 then 0 else (nI (n + 3 + tx t0)).toInt64) 2) ++ bsL 128 1).length))), (r 52, .inl (cI, 4200, .inl g129))] := hD
              refine lv_aload_n hx hb d_Mo_writePiece_132 rfl (lv_at hl 1 rfl) ?_
              refine lv_iload hx hb d_Mo_writePiece_133 (lv_at hl 0 rfl) ?_
              suffices key135 : W p l e ({ frames := 1, cells := 0, slots := 0, locals := 25 }) s m ([.ref h, .int (nI i9), .long t0, .int (nI n), .int sd, .int fl]).toArray below meth cd H locs 0 0 (MQ below (va_Qi (fun r0 (u : MWQ) => (((nI i9) < 0 ∨ 2097151 < (nI i9) ∨ (nI n) < 0 ∨ 4000 < (nI n) ∨ 8589934592 ≤ t0) ∧ r0 = 0 ∧ u = (1, nI T.length, rs, tp, wr, ro)) ∨ (∃ a9 b9 : Nat, (nI i9) = nI a9 ∧ a9 ≤ 2097151 ∧ (nI n) = nI b9 ∧ b9 ≤ 4000 ∧ t0 < 8589934592 ∧ ((¬ wpRm T.length t0 b9 ∧ r0 = -1 ∧ u = (0, nI T.length, rs, tp, wr, ro)) ∨ (wpRm T.length t0 b9 ∧ MW T (mpL (nI (a9 / 8192)) t0 (if fl = 0 then 0 else (nI (b9 + 3 + tx t0)).toInt64) sd b9) (a9 % 8192) wf wr u r0)))) (fun (u : MWQ) t => zW D (A) [(h, .inr (13, mO r u.1 u.2.1 le lv pg pn pl u.2.2.1)), (r 1, .inl (cI, 9400, .inl u.2.2.2.1)), (r 51, .inl (cI, 8192, .inl u.2.2.2.2.1)), (r 52, .inl (cI, 4200, .inl u.2.2.2.2.2))] [(cI, .int)] t) (A)) ([.ref h, .int (nI i9), .long t0, .int (nI n), .int sd, .int fl]).toArray s 0 0 (A)) (F0 m 145 ls [.long (if t0 < 0 then 0 else 128), .ref h]) by
                refine lv_if_le (tgt := 144) hx hb d_Mo_writePiece_135 rfl (fun h135 => ?_) (fun h135 => ?_)
                · refine lv_lconst (v := 0) hx hb d_Mo_writePiece_144 (by decide) ?_
                  refine z_topl (w := (if t0 < 0 then 0 else 128)) ((if_pos (tx_0 h135)).symm) ?_
                  exact key135
                · refine lv_ldc2 hx hb hown (hts _ wd_1468) d_Mo_writePiece_138 ?_
                  refine lv_goto (tgt := 145) hx hb d_Mo_writePiece_141 rfl ?_
                  refine z_topl (w := (if t0 < 0 then 0 else 128)) ((if_neg (tx_5 h135)).symm) ?_
                  exact key135
              refine lv_iconst (v := 1) hx hb d_Mo_writePiece_145 (by decide) ?_
              have hPc := hP.sub (ws' := [(h, .inr (13, mO r 0 (nI T.length) le lv pg pn pl (nI ((((([] : List Int32) ++ bsL 1 3) ++ bsL ((nI (i9 / 8192)).toInt64) 1) ++ bsL (if fl = 0 then 0 else (nI (n + 3 + tx t0)).toInt64) 2) ++ bsL 128 1).length))), (r 52, .inl (cI, 4200, .inl g129))]) [2, 3] rfl
              have hKc := hK.sub (tys' := [(cI, .int)]) [0] rfl
              have hDc := hD.sub (ws' := [(h, .inr (13, mO r 0 (nI T.length) le lv pg pn pl (nI ((((([] : List Int32) ++ bsL 1 3) ++ bsL ((nI (i9 / 8192)).toInt64) 1) ++ bsL (if fl = 0 then 0 else (nI (n + 3 + tx t0)).toInt64) 2) ++ bsL 128 1).length))), (r 52, .inl (cI, 4200, .inl g129))]) [2, 3] (by decide) rfl
              have hFc := va_free (wc := [(h, .inr (13, mO r 0 (nI T.length) le lv pg pn pl (nI ((((([] : List Int32) ++ bsL 1 3) ++ bsL ((nI (i9 / 8192)).toInt64) 1) ++ bsL (if fl = 0 then 0 else (nI (n + 3 + tx t0)).toInt64) 2) ++ bsL 128 1).length))), (r 52, .inl (cI, 4200, .inl g129))]) hD hS hA [2, 3] rfl
              refine va_callv (va_runV (As := [.long (if t0 < 0 then 0 else 128), .int (nI 1)]) (rest := []) ⟨hx, hb, hml, hown, hts⟩ (c_Mo_put l D H.size cI h r 0 (nI T.length) le lv pg pn pl ((((([] : List Int32) ++ bsL 1 3) ++ bsL ((nI (i9 / 8192)).toInt64) 1) ++ bsL (if fl = 0 then 0 else (nI (n + 3 + tx t0)).toInt64) 2) ++ bsL 128 1) g129 (if t0 < 0 then 0 else 128) 1 e129 (by (try simp only [List.length_append, bs_len, List.length_nil]); omega) (by omega) (by omega)) (z_cV hN wd_1451 wd_67 wd_1448 hd_Mo_put rfl rfl ⟨Nat.le_of_ble_eq_true rfl, Nat.le_of_ble_eq_true rfl⟩ wd_1450 wd_55) (z_preVm (va_recv (ci := 13) (q0 := 2) hK hP rfl rfl) hPc hKc hN hDc) rfl rfl hl.1 rfl (lv_room (Nat.le_of_ble_eq_true rfl)) d_Mo_writePiece_146 ⟨Nat.le_of_ble_eq_true rfl, Nat.le_of_ble_eq_true rfl⟩) hS (fun q _ h => hFc q h) hFc (fun g146 t H locs ht hvm e146 hB hz1 hk1 hS => ?_)
              obtain ⟨hP1, hK1, hD1⟩ := hB
              rw [ht] at hP1
              obtain ⟨hP, hD⟩ := va_join (wr := [(r 1, .inl (cI, 9400, .inl tp)), (r 51, .inl (cI, 8192, .inl wr))]) (w1 := [(h, .inr (13, mO r 0 (nI T.length) le lv pg pn pl (nI (((((([] : List Int32) ++ bsL 1 3) ++ bsL ((nI (i9 / 8192)).toInt64) 1) ++ bsL (if fl = 0 then 0 else (nI (n + 3 + tx t0)).toInt64) 2) ++ bsL 128 1) ++ bsL (if t0 < 0 then 0 else 128) 1).length))), (r 52, .inl (cI, 4200, .inl g146))]) hP hD [2, 3] [0, 1] rfl rfl (by decide) (by decide) hk1 hFc hP1 hD1
              clear hk1 hP1 hD1 hFc hPc hDc hz1
              have hP : va_P D classes [(r 1, .inl (cI, 9400, .inl tp)), (r 51, .inl (cI, 8192, .inl wr)), (h, .inr (13, mO r 0 (nI T.length) le lv pg pn pl (nI (((((([] : List Int32) ++ bsL 1 3) ++ bsL ((nI (i9 / 8192)).toInt64) 1) ++ bsL (if fl = 0 then 0 else (nI (n + 3 + tx t0)).toInt64) 2) ++ bsL 128 1) ++ bsL (if t0 < 0 then 0 else 128) 1).length))), (r 52, .inl (cI, 4200, .inl g146))] H := hP
              have hD : va_D A [(r 1, .inl (cI, 9400, .inl tp)), (r 51, .inl (cI, 8192, .inl wr)), (h, .inr (13, mO r 0 (nI T.length) le lv pg pn pl (nI (((((([] : List Int32) ++ bsL 1 3) ++ bsL ((nI (i9 / 8192)).toInt64) 1) ++ bsL (if fl = 0 then 0 else (nI (n + 3 + tx t0)).toInt64) 2) ++ bsL 128 1) ++ bsL (if t0 < 0 then 0 else 128) 1).length))), (r 52, .inl (cI, 4200, .inl g146))] := hD
              refine lv_aload_n hx hb d_Mo_writePiece_149 rfl (lv_at hl 1 rfl) ?_
              refine lv_iload hx hb d_Mo_writePiece_150 (lv_at hl 0 rfl) ?_
              refine lv_i2l (v := (nI (tx t0)).toInt64) hx hb d_Mo_writePiece_152 rfl ?_
              refine lv_iconst (v := 1) hx hb d_Mo_writePiece_153 (by decide) ?_
              have hPc := hP.sub (ws' := [(h, .inr (13, mO r 0 (nI T.length) le lv pg pn pl (nI (((((([] : List Int32) ++ bsL 1 3) ++ bsL ((nI (i9 / 8192)).toInt64) 1) ++ bsL (if fl = 0 then 0 else (nI (n + 3 + tx t0)).toInt64) 2) ++ bsL 128 1) ++ bsL (if t0 < 0 then 0 else 128) 1).length))), (r 52, .inl (cI, 4200, .inl g146))]) [2, 3] rfl
              have hKc := hK.sub (tys' := [(cI, .int)]) [0] rfl
              have hDc := hD.sub (ws' := [(h, .inr (13, mO r 0 (nI T.length) le lv pg pn pl (nI (((((([] : List Int32) ++ bsL 1 3) ++ bsL ((nI (i9 / 8192)).toInt64) 1) ++ bsL (if fl = 0 then 0 else (nI (n + 3 + tx t0)).toInt64) 2) ++ bsL 128 1) ++ bsL (if t0 < 0 then 0 else 128) 1).length))), (r 52, .inl (cI, 4200, .inl g146))]) [2, 3] (by decide) rfl
              have hFc := va_free (wc := [(h, .inr (13, mO r 0 (nI T.length) le lv pg pn pl (nI (((((([] : List Int32) ++ bsL 1 3) ++ bsL ((nI (i9 / 8192)).toInt64) 1) ++ bsL (if fl = 0 then 0 else (nI (n + 3 + tx t0)).toInt64) 2) ++ bsL 128 1) ++ bsL (if t0 < 0 then 0 else 128) 1).length))), (r 52, .inl (cI, 4200, .inl g146))]) hD hS hA [2, 3] rfl
              refine va_callv (va_runV (As := [.long ((nI (tx t0)).toInt64), .int (nI 1)]) (rest := []) ⟨hx, hb, hml, hown, hts⟩ (c_Mo_put l D H.size cI h r 0 (nI T.length) le lv pg pn pl (((((([] : List Int32) ++ bsL 1 3) ++ bsL ((nI (i9 / 8192)).toInt64) 1) ++ bsL (if fl = 0 then 0 else (nI (n + 3 + tx t0)).toInt64) 2) ++ bsL 128 1) ++ bsL (if t0 < 0 then 0 else 128) 1) g146 ((nI (tx t0)).toInt64) 1 e146 (by (try simp only [List.length_append, bs_len, List.length_nil]); omega) (by omega) (by omega)) (z_cV hN wd_1451 wd_67 wd_1448 hd_Mo_put rfl rfl ⟨Nat.le_of_ble_eq_true rfl, Nat.le_of_ble_eq_true rfl⟩ wd_1450 wd_55) (z_preVm (va_recv (ci := 13) (q0 := 2) hK hP rfl rfl) hPc hKc hN hDc) rfl rfl hl.1 rfl (lv_room (Nat.le_of_ble_eq_true rfl)) d_Mo_writePiece_154 ⟨Nat.le_of_ble_eq_true rfl, Nat.le_of_ble_eq_true rfl⟩) hS (fun q _ h => hFc q h) hFc (fun g154 t H locs ht hvm e154 hB hz1 hk1 hS => ?_)
              obtain ⟨hP1, hK1, hD1⟩ := hB
              rw [ht] at hP1
              obtain ⟨hP, hD⟩ := va_join (wr := [(r 1, .inl (cI, 9400, .inl tp)), (r 51, .inl (cI, 8192, .inl wr))]) (w1 := [(h, .inr (13, mO r 0 (nI T.length) le lv pg pn pl (nI ((((((([] : List Int32) ++ bsL 1 3) ++ bsL ((nI (i9 / 8192)).toInt64) 1) ++ bsL (if fl = 0 then 0 else (nI (n + 3 + tx t0)).toInt64) 2) ++ bsL 128 1) ++ bsL (if t0 < 0 then 0 else 128) 1) ++ bsL ((nI (tx t0)).toInt64) 1).length))), (r 52, .inl (cI, 4200, .inl g154))]) hP hD [2, 3] [0, 1] rfl rfl (by decide) (by decide) hk1 hFc hP1 hD1
              clear hk1 hP1 hD1 hFc hPc hDc hz1
              have hP : va_P D classes [(r 1, .inl (cI, 9400, .inl tp)), (r 51, .inl (cI, 8192, .inl wr)), (h, .inr (13, mO r 0 (nI T.length) le lv pg pn pl (nI ((((((([] : List Int32) ++ bsL 1 3) ++ bsL ((nI (i9 / 8192)).toInt64) 1) ++ bsL (if fl = 0 then 0 else (nI (n + 3 + tx t0)).toInt64) 2) ++ bsL 128 1) ++ bsL (if t0 < 0 then 0 else 128) 1) ++ bsL ((nI (tx t0)).toInt64) 1).length))), (r 52, .inl (cI, 4200, .inl g154))] H := hP
              have hD : va_D A [(r 1, .inl (cI, 9400, .inl tp)), (r 51, .inl (cI, 8192, .inl wr)), (h, .inr (13, mO r 0 (nI T.length) le lv pg pn pl (nI ((((((([] : List Int32) ++ bsL 1 3) ++ bsL ((nI (i9 / 8192)).toInt64) 1) ++ bsL (if fl = 0 then 0 else (nI (n + 3 + tx t0)).toInt64) 2) ++ bsL 128 1) ++ bsL (if t0 < 0 then 0 else 128) 1) ++ bsL ((nI (tx t0)).toInt64) 1).length))), (r 52, .inl (cI, 4200, .inl g154))] := hD
              refine lv_iload hx hb d_Mo_writePiece_157 (lv_at hl 0 rfl) ?_
              refine lv_if_le (tgt := 208) hx hb d_Mo_writePiece_159 rfl (fun h159 => ?_) (fun h159 => ?_)
              · have h159 := tx_0 h159
                refine lv_iload hx hb d_Mo_writePiece_208 (lv_at hl 5 rfl) ?_
                refine lv_istore (lv' := [(8, .int sd), (7, .int (nI (tx t0))), (0, .ref h), (1, .int (nI i9)), (2, .long t0), (4, .int (nI n)), (5, .int sd), (6, .int fl)]) hx hb d_Mo_writePiece_210 hl (by decide) rfl (fun ls hl => ?_)
                refine lv_iconst (v := 0) hx hb d_Mo_writePiece_212 (by decide) ?_
                refine lv_istore (lv' := [(9, .int 0), (8, .int sd), (7, .int (nI (tx t0))), (0, .ref h), (1, .int (nI i9)), (2, .long t0), (4, .int (nI n)), (5, .int sd), (6, .int fl)]) hx hb d_Mo_writePiece_213 hl (by decide) rfl (fun ls hl => ?_)
                have loop215 : ∀ (N : Nat) (j : Nat) (X : List Int32) (g : Nat → Int32) (H : Heap) (locs : List Loc) (ls : Array Slot) (hm : n - j < N) (hj : j ≤ n) (hX : X = mpH (nI (i9 / 8192)) t0 (if fl = 0 then 0 else (nI (n + 3 + tx t0)).toInt64) ++ (mgL sd n).take j) (hg : rl g X) (hl : lv_has ls 10 [(0, .ref h), (1, .int (nI i9)), (4, .int (nI n)), (8, .int (gnX sd j)), (9, .int (nI j))]) (hP : va_P D classes [(h, .inr (13, mO r 0 (nI T.length) le lv pg pn pl (nI X.length))), (r 1, .inl (cI, 9400, .inl tp)), (r 51, .inl (cI, 8192, .inl wr)), (r 52, .inl (cI, 4200, .inl g))] H) (hD : va_D A [(h, .inr (13, mO r 0 (nI T.length) le lv pg pn pl (nI X.length))), (r 1, .inl (cI, 9400, .inl tp)), (r 51, .inl (cI, 8192, .inl wr)), (r 52, .inl (cI, 4200, .inl g))]) (hS : va_S A s.heap H locs), W p l e ({ frames := 1, cells := 0, slots := 0, locals := 25 }) s m ([.ref h, .int (nI i9), .long t0, .int (nI n), .int sd, .int fl]).toArray below meth cd H locs 0 0 (MQ below (va_Qi (fun r0 (u : MWQ) => (((nI i9) < 0 ∨ 2097151 < (nI i9) ∨ (nI n) < 0 ∨ 4000 < (nI n) ∨ 8589934592 ≤ t0) ∧ r0 = 0 ∧ u = (1, nI T.length, rs, tp, wr, ro)) ∨ (∃ a9 b9 : Nat, (nI i9) = nI a9 ∧ a9 ≤ 2097151 ∧ (nI n) = nI b9 ∧ b9 ≤ 4000 ∧ t0 < 8589934592 ∧ ((¬ wpRm T.length t0 b9 ∧ r0 = -1 ∧ u = (0, nI T.length, rs, tp, wr, ro)) ∨ (wpRm T.length t0 b9 ∧ MW T (mpL (nI (a9 / 8192)) t0 (if fl = 0 then 0 else (nI (b9 + 3 + tx t0)).toInt64) sd b9) (a9 % 8192) wf wr u r0)))) (fun (u : MWQ) t => zW D (A) [(h, .inr (13, mO r u.1 u.2.1 le lv pg pn pl u.2.2.1)), (r 1, .inl (cI, 9400, .inl u.2.2.2.1)), (r 51, .inl (cI, 8192, .inl u.2.2.2.2.1)), (r 52, .inl (cI, 4200, .inl u.2.2.2.2.2))] [(cI, .int)] t) (A)) ([.ref h, .int (nI i9), .long t0, .int (nI n), .int sd, .int fl]).toArray s 0 0 (A)) (F0 m 215 ls []) := by
                  intro N215
                  induction N215 with
                  | zero => intro j X g H locs ls hm hj hX hg hl hP hD hS; exact absurd hm (Nat.not_lt_zero _)
                  | succ N215 ih215 =>
                    intro j X g H locs ls hm hj hX hg hl hP hD hS
                    refine lv_iload hx hb d_Mo_writePiece_215 (lv_at hl 4 rfl) ?_
                    refine lv_iload hx hb d_Mo_writePiece_217 (lv_at hl 2 rfl) ?_
                    refine lv_icmp_ge (tgt := 255) hx hb d_Mo_writePiece_219 rfl (fun h219 => ?_) (fun h219 => ?_)
                    · have h219 := (nI_leI (by omega) (by omega)).mp h219
                      have hxl := mp_xl hX hj
                      have hxe := mp_end hX h219
                      refine lv_aload_n hx hb d_Mo_writePiece_255 rfl (lv_at hl 0 rfl) ?_
                      refine lv_iload_n hx hb d_Mo_writePiece_256 rfl (lv_at hl 1 rfl) ?_
                      refine lv_sipush (v := 8192) hx hb d_Mo_writePiece_257 (by decide) ?_
                      refine lv_irem hx hb d_Mo_writePiece_260 (by decide) ?_
                      refine z_topi (w := nI (i9 % 8192)) (pk_rem (d := 8192) (by omega) (by omega) (by omega)) ?_
                      have hPc := hP.sub (ws' := [(h, .inr (13, mO r 0 (nI T.length) le lv pg pn pl (nI X.length))), (r 1, .inl (cI, 9400, .inl tp)), (r 51, .inl (cI, 8192, .inl wr)), (r 52, .inl (cI, 4200, .inl g))]) [0, 1, 2, 3] rfl
                      have hKc := hK.sub (tys' := [(cI, .int)]) [0] rfl
                      have hDc := hD.sub (ws' := [(h, .inr (13, mO r 0 (nI T.length) le lv pg pn pl (nI X.length))), (r 1, .inl (cI, 9400, .inl tp)), (r 51, .inl (cI, 8192, .inl wr)), (r 52, .inl (cI, 4200, .inl g))]) [0, 1, 2, 3] (by decide) rfl
                      have hFc := va_free (wc := [(h, .inr (13, mO r 0 (nI T.length) le lv pg pn pl (nI X.length))), (r 1, .inl (cI, 9400, .inl tp)), (r 51, .inl (cI, 8192, .inl wr)), (r 52, .inl (cI, 4200, .inl g))]) hD hS hA [0, 1, 2, 3] rfl
                      refine va_callv (va_runV (As := [.int (nI (i9 % 8192))]) (rest := []) ⟨hx, hb, hml, hown, hts⟩ (c_Mo_writePackets l D H.size cI h r 0 le lv pg pn pl X g T tp (wf (i9 % 8192)) (i9 % 8192) wr hg (by omega) htp (by rw [hxl]; omega) (by omega) (hwf _ (by omega)) (hwb _ (by omega))) (z_cV hN wd_1461 wd_67 wd_1458 hd_Mo_writePackets rfl rfl ⟨Nat.le_of_ble_eq_true rfl, Nat.le_of_ble_eq_true rfl⟩ wd_1460 wd_57) (z_preVm (va_recv (ci := 13) (q0 := 0) hK hP rfl rfl) hPc hKc hN hDc) rfl rfl hl.1 rfl (lv_room (Nat.le_of_ble_eq_true rfl)) d_Mo_writePiece_261 ⟨Nat.le_of_ble_eq_true rfl, Nat.le_of_ble_eq_true rfl⟩) hS (fun q _ h => hFc q h) hFc (fun g261 t H locs ht hvm e261 hB hz1 hk1 hS => ?_)
                      obtain ⟨hP1, hK1, hD1⟩ := hB
                      rw [ht] at hP1
                      obtain ⟨hP, hD⟩ := va_join (wr := []) (w1 := [(h, .inr (13, mO r 0 (nI (T ++ ppL (i9 % 8192) (wf (i9 % 8192)) X.length 0 X).length) le lv pg pn pl (nI X.length))), (r 1, .inl (cI, 9400, .inl g261)), (r 51, .inl (cI, 8192, .inl (upd wr (i9 % 8192) (nI ((wf (i9 % 8192)) + (X.length + 183) / 184))))), (r 52, .inl (cI, 4200, .inl g))]) hP hD [0, 1, 2, 3] [] rfl rfl (by decide) (by decide) hk1 hFc hP1 hD1
                      clear hk1 hP1 hD1 hFc hPc hDc hz1
                      have hP : va_P D classes [(h, .inr (13, mO r 0 (nI (T ++ ppL (i9 % 8192) (wf (i9 % 8192)) X.length 0 X).length) le lv pg pn pl (nI X.length))), (r 1, .inl (cI, 9400, .inl g261)), (r 51, .inl (cI, 8192, .inl (upd wr (i9 % 8192) (nI ((wf (i9 % 8192)) + (X.length + 183) / 184))))), (r 52, .inl (cI, 4200, .inl g))] H := hP
                      have hD : va_D A [(h, .inr (13, mO r 0 (nI (T ++ ppL (i9 % 8192) (wf (i9 % 8192)) X.length 0 X).length) le lv pg pn pl (nI X.length))), (r 1, .inl (cI, 9400, .inl g261)), (r 51, .inl (cI, 8192, .inl (upd wr (i9 % 8192) (nI ((wf (i9 % 8192)) + (X.length + 183) / 184))))), (r 52, .inl (cI, 4200, .inl g))] := hD
                      refine lv_aload_n hx hb d_Mo_writePiece_264 rfl (lv_at hl 0 rfl) ?_
                      refine va_get (D := D) (ci := 13) (v := .int (nI (T ++ ppL (i9 % 8192) (wf (i9 % 8192)) X.length 0 X).length)) (C := R_Mo) (T := F_Mo) (N := 54) hx hb hts i_Mo hown hK hP 0 rfl rfl 2 (by decide) (hts _ wd_1090) (fun _ h9 => h9) rfl d_Mo_writePiece_265 ?_
                      have hP9 := hP.sub (ws' := [(h, .inr (13, mO r 0 (nI (T ++ ppL (i9 % 8192) (wf (i9 % 8192)) X.length 0 X).length) le lv pg pn pl (nI X.length))), (r 1, .inl (cI, 9400, .inl g261)), (r 51, .inl (cI, 8192, .inl (upd wr (i9 % 8192) (nI ((wf (i9 % 8192)) + (X.length + 183) / 184))))), (r 52, .inl (cI, 4200, .inl g))]) [0, 1, 2, 3] rfl
                      have hD9 := hD.sub (ws' := [(h, .inr (13, mO r 0 (nI (T ++ ppL (i9 % 8192) (wf (i9 % 8192)) X.length 0 X).length) le lv pg pn pl (nI X.length))), (r 1, .inl (cI, 9400, .inl g261)), (r 51, .inl (cI, 8192, .inl (upd wr (i9 % 8192) (nI ((wf (i9 % 8192)) + (X.length + 183) / 184))))), (r 52, .inl (cI, 4200, .inl g))]) [0, 1, 2, 3] (by decide) rfl
                      have hK9 := hK.sub (tys' := [(cI, .int)]) [0] rfl
                      exact W.iret (v := (nI (T ++ ppL (i9 % 8192) (wf (i9 % 8192)) X.length 0 X).length)) hx hb hr (fun t ht hW => ⟨⟨_, (0, nI (T ++ ppL (i9 % 8192) (wf (i9 % 8192)) X.length 0 X).length, nI X.length, g261, upd wr (i9 % 8192) (nI (wf (i9 % 8192) + (X.length + 183) / 184)), g), rfl, Or.inr ⟨i9, n, rfl, hi9, rfl, hn4, h30, Or.inr ⟨h75, by rw [← hxe]; exact ⟨rfl, e261, rfl, rfl, rfl⟩⟩⟩, ⟨by rw [ht]; exact hP9, va_K.moved hW.alike hK9, hD9⟩⟩, hS.F ht⟩) hS.2.2 d_Mo_writePiece_268
                    · have h219 := mt (nI_leI (by omega) (by omega)).mpr h219
                      have hxl := mp_xl hX hj
                      refine lv_ldcw hx hb hown (hts _ wd_1472) d_Mo_writePiece_222 ?_
                      refine lv_iload hx hb d_Mo_writePiece_225 (lv_at hl 3 rfl) ?_
                      refine lv_imul hx hb d_Mo_writePiece_227 ?_
                      refine lv_sipush (v := 12345) hx hb d_Mo_writePiece_228 (by decide) ?_
                      refine lv_iadd hx hb d_Mo_writePiece_231 ?_
                      refine z_topi (w := gnX sd (j + 1)) rfl ?_
                      refine lv_istore (lv' := [(8, .int (gnX sd (j + 1))), (0, .ref h), (1, .int (nI i9)), (4, .int (nI n)), (9, .int (nI j))]) hx hb d_Mo_writePiece_232 hl (by decide) rfl (fun ls hl => ?_)
                      refine lv_aload_n hx hb d_Mo_writePiece_234 rfl (lv_at hl 1 rfl) ?_
                      refine lv_iload hx hb d_Mo_writePiece_235 (lv_at hl 0 rfl) ?_
                      refine lv_bipush (v := 16) hx hb d_Mo_writePiece_237 (by decide) ?_
                      refine lv_ishr hx hb d_Mo_writePiece_239 ?_
                      refine lv_sipush (v := 255) hx hb d_Mo_writePiece_240 (by decide) ?_
                      refine lv_iand hx hb d_Mo_writePiece_243 ?_
                      refine lv_i2l (v := (((gnX sd (j + 1)) >>> (16 &&& 31)) &&& 255).toInt64) hx hb d_Mo_writePiece_244 rfl ?_
                      refine lv_iconst (v := 1) hx hb d_Mo_writePiece_245 (by decide) ?_
                      have hPc := hP.sub (ws' := [(h, .inr (13, mO r 0 (nI T.length) le lv pg pn pl (nI X.length))), (r 52, .inl (cI, 4200, .inl g))]) [0, 3] rfl
                      have hKc := hK.sub (tys' := [(cI, .int)]) [0] rfl
                      have hDc := hD.sub (ws' := [(h, .inr (13, mO r 0 (nI T.length) le lv pg pn pl (nI X.length))), (r 52, .inl (cI, 4200, .inl g))]) [0, 3] (by decide) rfl
                      have hFc := va_free (wc := [(h, .inr (13, mO r 0 (nI T.length) le lv pg pn pl (nI X.length))), (r 52, .inl (cI, 4200, .inl g))]) hD hS hA [0, 3] rfl
                      refine va_callv (va_runV (As := [.long ((((gnX sd (j + 1)) >>> (16 &&& 31)) &&& 255).toInt64), .int (nI 1)]) (rest := []) ⟨hx, hb, hml, hown, hts⟩ (c_Mo_put l D H.size cI h r 0 (nI T.length) le lv pg pn pl X g ((((gnX sd (j + 1)) >>> (16 &&& 31)) &&& 255).toInt64) 1 hg (by omega) (by omega) (by omega)) (z_cV hN wd_1451 wd_67 wd_1448 hd_Mo_put rfl rfl ⟨Nat.le_of_ble_eq_true rfl, Nat.le_of_ble_eq_true rfl⟩ wd_1450 wd_55) (z_preVm (va_recv (ci := 13) (q0 := 0) hK hP rfl rfl) hPc hKc hN hDc) rfl rfl hl.1 rfl (lv_room (Nat.le_of_ble_eq_true rfl)) d_Mo_writePiece_246 ⟨Nat.le_of_ble_eq_true rfl, Nat.le_of_ble_eq_true rfl⟩) hS (fun q _ h => hFc q h) hFc (fun g246 t H locs ht hvm e246 hB hz1 hk1 hS => ?_)
                      obtain ⟨hP1, hK1, hD1⟩ := hB
                      rw [ht] at hP1
                      obtain ⟨hP, hD⟩ := va_join (wr := [(r 1, .inl (cI, 9400, .inl tp)), (r 51, .inl (cI, 8192, .inl wr))]) (w1 := [(h, .inr (13, mO r 0 (nI T.length) le lv pg pn pl (nI (X ++ bsL ((((gnX sd (j + 1)) >>> (16 &&& 31)) &&& 255).toInt64) 1).length))), (r 52, .inl (cI, 4200, .inl g246))]) hP hD [0, 3] [1, 2] rfl rfl (by decide) (by decide) hk1 hFc hP1 hD1
                      clear hk1 hP1 hD1 hFc hPc hDc hz1
                      have hP : va_P D classes [(r 1, .inl (cI, 9400, .inl tp)), (r 51, .inl (cI, 8192, .inl wr)), (h, .inr (13, mO r 0 (nI T.length) le lv pg pn pl (nI (X ++ bsL ((((gnX sd (j + 1)) >>> (16 &&& 31)) &&& 255).toInt64) 1).length))), (r 52, .inl (cI, 4200, .inl g246))] H := hP
                      have hD : va_D A [(r 1, .inl (cI, 9400, .inl tp)), (r 51, .inl (cI, 8192, .inl wr)), (h, .inr (13, mO r 0 (nI T.length) le lv pg pn pl (nI (X ++ bsL ((((gnX sd (j + 1)) >>> (16 &&& 31)) &&& 255).toInt64) 1).length))), (r 52, .inl (cI, 4200, .inl g246))] := hD
                      refine lv_iinc (k := 4) (v := nI (j + 1)) (lv' := [(9, .int (nI (j + 1))), (8, .int (gnX sd (j + 1))), (0, .ref h), (1, .int (nI i9)), (4, .int (nI n))]) hx hb d_Mo_writePiece_249 hl rfl (nI_1 j) (by decide) rfl (fun ls hl => ?_)
                      refine lv_goto (tgt := 215) hx hb d_Mo_writePiece_252 rfl ?_
                      exact ih215 (j + 1) (X ++ bsL (((gnX sd (j + 1)) >>> ((16 : Int32) &&& 31)) &&& 255).toInt64 1) g246 H locs ls (by omega) (by omega) (mp_go hX (by omega)) e246 (lv_sub hl [2, 3, 4, 1, 0] rfl) (hP.sub [2, 0, 1, 3] rfl) (hD.sub [2, 0, 1, 3] (by decide) rfl) hS
                exact loop215 _ 0 ((((((([] : List Int32) ++ bsL 1 3) ++ bsL ((nI (i9 / 8192)).toInt64) 1) ++ bsL (if fl = 0 then 0 else (nI (n + 3 + tx t0)).toInt64) 2) ++ bsL 128 1) ++ bsL (if t0 < 0 then 0 else 128) 1) ++ bsL ((nI (tx t0)).toInt64) 1) g154 H locs ls (Nat.lt_succ_self _) (Nat.zero_le _) (mp_i0 h159 rfl) e154 (lv_sub hl [3, 4, 6, 1, 0] rfl) (hP.sub [2, 0, 1, 3] rfl) (hD.sub [2, 0, 1, 3] (by decide) rfl) hS
              · have h159 := tx_5 h159
                refine lv_aload_n hx hb d_Mo_writePiece_162 rfl (lv_at hl 1 rfl) ?_
                refine lv_ldc2 hx hb hown (hts _ wd_1469) d_Mo_writePiece_163 ?_
                refine lv_lload_n hx hb d_Mo_writePiece_166 rfl (lv_at hl 3 rfl) ?_
                refine lv_bipush (v := 30) hx hb d_Mo_writePiece_167 (by decide) ?_
                refine lv_lshr (v := t0 >>> ((30 : Int32).toInt64 &&& 63)) hx hb d_Mo_writePiece_169 rfl ?_
                refine lv_bipush (v := 33) hx hb d_Mo_writePiece_170 (by decide) ?_
                refine lv_lshl (v := (t0 >>> ((30 : Int32).toInt64 &&& 63)) <<< ((33 : Int32).toInt64 &&& 63)) hx hb d_Mo_writePiece_172 rfl ?_
                refine lv_lor hx hb d_Mo_writePiece_173 ?_
                refine lv_ldc2 hx hb hown (hts _ wd_1336) d_Mo_writePiece_174 ?_
                refine lv_lor hx hb d_Mo_writePiece_177 ?_
                refine lv_lload_n hx hb d_Mo_writePiece_178 rfl (lv_at hl 3 rfl) ?_
                refine lv_bipush (v := 15) hx hb d_Mo_writePiece_179 (by decide) ?_
                refine lv_lshr (v := t0 >>> ((15 : Int32).toInt64 &&& 63)) hx hb d_Mo_writePiece_181 rfl ?_
                refine lv_ldc2 hx hb hown (hts _ wd_1470) d_Mo_writePiece_182 ?_
                refine lv_land hx hb d_Mo_writePiece_185 ?_
                refine lv_bipush (v := 17) hx hb d_Mo_writePiece_186 (by decide) ?_
                refine lv_lshl (v := ((t0 >>> ((15 : Int32).toInt64 &&& 63)) &&& 32767) <<< ((17 : Int32).toInt64 &&& 63)) hx hb d_Mo_writePiece_188 rfl ?_
                refine lv_lor hx hb d_Mo_writePiece_189 ?_
                refine lv_ldc2 hx hb hown (hts _ wd_1471) d_Mo_writePiece_190 ?_
                refine lv_lor hx hb d_Mo_writePiece_193 ?_
                refine lv_lload_n hx hb d_Mo_writePiece_194 rfl (lv_at hl 3 rfl) ?_
                refine lv_ldc2 hx hb hown (hts _ wd_1470) d_Mo_writePiece_195 ?_
                refine lv_land hx hb d_Mo_writePiece_198 ?_
                refine lv_iconst (v := 1) hx hb d_Mo_writePiece_199 (by decide) ?_
                refine lv_lshl (v := (t0 &&& 32767) <<< ((1 : Int32).toInt64 &&& 63)) hx hb d_Mo_writePiece_200 rfl ?_
                refine lv_lor hx hb d_Mo_writePiece_201 ?_
                refine lv_lconst (v := 1) hx hb d_Mo_writePiece_202 (by decide) ?_
                refine lv_lor hx hb d_Mo_writePiece_203 ?_
                refine z_topl (w := mpT t0) rfl ?_
                refine lv_iconst (v := 5) hx hb d_Mo_writePiece_204 (by decide) ?_
                have hPc := hP.sub (ws' := [(h, .inr (13, mO r 0 (nI T.length) le lv pg pn pl (nI ((((((([] : List Int32) ++ bsL 1 3) ++ bsL ((nI (i9 / 8192)).toInt64) 1) ++ bsL (if fl = 0 then 0 else (nI (n + 3 + tx t0)).toInt64) 2) ++ bsL 128 1) ++ bsL (if t0 < 0 then 0 else 128) 1) ++ bsL ((nI (tx t0)).toInt64) 1).length))), (r 52, .inl (cI, 4200, .inl g154))]) [2, 3] rfl
                have hKc := hK.sub (tys' := [(cI, .int)]) [0] rfl
                have hDc := hD.sub (ws' := [(h, .inr (13, mO r 0 (nI T.length) le lv pg pn pl (nI ((((((([] : List Int32) ++ bsL 1 3) ++ bsL ((nI (i9 / 8192)).toInt64) 1) ++ bsL (if fl = 0 then 0 else (nI (n + 3 + tx t0)).toInt64) 2) ++ bsL 128 1) ++ bsL (if t0 < 0 then 0 else 128) 1) ++ bsL ((nI (tx t0)).toInt64) 1).length))), (r 52, .inl (cI, 4200, .inl g154))]) [2, 3] (by decide) rfl
                have hFc := va_free (wc := [(h, .inr (13, mO r 0 (nI T.length) le lv pg pn pl (nI ((((((([] : List Int32) ++ bsL 1 3) ++ bsL ((nI (i9 / 8192)).toInt64) 1) ++ bsL (if fl = 0 then 0 else (nI (n + 3 + tx t0)).toInt64) 2) ++ bsL 128 1) ++ bsL (if t0 < 0 then 0 else 128) 1) ++ bsL ((nI (tx t0)).toInt64) 1).length))), (r 52, .inl (cI, 4200, .inl g154))]) hD hS hA [2, 3] rfl
                refine va_callv (va_runV (As := [.long (mpT t0), .int (nI 5)]) (rest := []) ⟨hx, hb, hml, hown, hts⟩ (c_Mo_put l D H.size cI h r 0 (nI T.length) le lv pg pn pl ((((((([] : List Int32) ++ bsL 1 3) ++ bsL ((nI (i9 / 8192)).toInt64) 1) ++ bsL (if fl = 0 then 0 else (nI (n + 3 + tx t0)).toInt64) 2) ++ bsL 128 1) ++ bsL (if t0 < 0 then 0 else 128) 1) ++ bsL ((nI (tx t0)).toInt64) 1) g154 (mpT t0) 5 e154 (by (try simp only [List.length_append, bs_len, List.length_nil]); omega) (by omega) (by omega)) (z_cV hN wd_1451 wd_67 wd_1448 hd_Mo_put rfl rfl ⟨Nat.le_of_ble_eq_true rfl, Nat.le_of_ble_eq_true rfl⟩ wd_1450 wd_55) (z_preVm (va_recv (ci := 13) (q0 := 2) hK hP rfl rfl) hPc hKc hN hDc) rfl rfl hl.1 rfl (lv_room (Nat.le_of_ble_eq_true rfl)) d_Mo_writePiece_205 ⟨Nat.le_of_ble_eq_true rfl, Nat.le_of_ble_eq_true rfl⟩) hS (fun q _ h => hFc q h) hFc (fun g205 t H locs ht hvm e205 hB hz1 hk1 hS => ?_)
                obtain ⟨hP1, hK1, hD1⟩ := hB
                rw [ht] at hP1
                obtain ⟨hP, hD⟩ := va_join (wr := [(r 1, .inl (cI, 9400, .inl tp)), (r 51, .inl (cI, 8192, .inl wr))]) (w1 := [(h, .inr (13, mO r 0 (nI T.length) le lv pg pn pl (nI (((((((([] : List Int32) ++ bsL 1 3) ++ bsL ((nI (i9 / 8192)).toInt64) 1) ++ bsL (if fl = 0 then 0 else (nI (n + 3 + tx t0)).toInt64) 2) ++ bsL 128 1) ++ bsL (if t0 < 0 then 0 else 128) 1) ++ bsL ((nI (tx t0)).toInt64) 1) ++ bsL (mpT t0) 5).length))), (r 52, .inl (cI, 4200, .inl g205))]) hP hD [2, 3] [0, 1] rfl rfl (by decide) (by decide) hk1 hFc hP1 hD1
                clear hk1 hP1 hD1 hFc hPc hDc hz1
                have hP : va_P D classes [(r 1, .inl (cI, 9400, .inl tp)), (r 51, .inl (cI, 8192, .inl wr)), (h, .inr (13, mO r 0 (nI T.length) le lv pg pn pl (nI (((((((([] : List Int32) ++ bsL 1 3) ++ bsL ((nI (i9 / 8192)).toInt64) 1) ++ bsL (if fl = 0 then 0 else (nI (n + 3 + tx t0)).toInt64) 2) ++ bsL 128 1) ++ bsL (if t0 < 0 then 0 else 128) 1) ++ bsL ((nI (tx t0)).toInt64) 1) ++ bsL (mpT t0) 5).length))), (r 52, .inl (cI, 4200, .inl g205))] H := hP
                have hD : va_D A [(r 1, .inl (cI, 9400, .inl tp)), (r 51, .inl (cI, 8192, .inl wr)), (h, .inr (13, mO r 0 (nI T.length) le lv pg pn pl (nI (((((((([] : List Int32) ++ bsL 1 3) ++ bsL ((nI (i9 / 8192)).toInt64) 1) ++ bsL (if fl = 0 then 0 else (nI (n + 3 + tx t0)).toInt64) 2) ++ bsL 128 1) ++ bsL (if t0 < 0 then 0 else 128) 1) ++ bsL ((nI (tx t0)).toInt64) 1) ++ bsL (mpT t0) 5).length))), (r 52, .inl (cI, 4200, .inl g205))] := hD
                refine lv_iload hx hb d_Mo_writePiece_208 (lv_at hl 5 rfl) ?_
                refine lv_istore (lv' := [(8, .int sd), (7, .int (nI (tx t0))), (0, .ref h), (1, .int (nI i9)), (2, .long t0), (4, .int (nI n)), (5, .int sd), (6, .int fl)]) hx hb d_Mo_writePiece_210 hl (by decide) rfl (fun ls hl => ?_)
                refine lv_iconst (v := 0) hx hb d_Mo_writePiece_212 (by decide) ?_
                refine lv_istore (lv' := [(9, .int 0), (8, .int sd), (7, .int (nI (tx t0))), (0, .ref h), (1, .int (nI i9)), (2, .long t0), (4, .int (nI n)), (5, .int sd), (6, .int fl)]) hx hb d_Mo_writePiece_213 hl (by decide) rfl (fun ls hl => ?_)
                have loop215 : ∀ (N : Nat) (j : Nat) (X : List Int32) (g : Nat → Int32) (H : Heap) (locs : List Loc) (ls : Array Slot) (hm : n - j < N) (hj : j ≤ n) (hX : X = mpH (nI (i9 / 8192)) t0 (if fl = 0 then 0 else (nI (n + 3 + tx t0)).toInt64) ++ (mgL sd n).take j) (hg : rl g X) (hl : lv_has ls 10 [(0, .ref h), (1, .int (nI i9)), (4, .int (nI n)), (8, .int (gnX sd j)), (9, .int (nI j))]) (hP : va_P D classes [(h, .inr (13, mO r 0 (nI T.length) le lv pg pn pl (nI X.length))), (r 1, .inl (cI, 9400, .inl tp)), (r 51, .inl (cI, 8192, .inl wr)), (r 52, .inl (cI, 4200, .inl g))] H) (hD : va_D A [(h, .inr (13, mO r 0 (nI T.length) le lv pg pn pl (nI X.length))), (r 1, .inl (cI, 9400, .inl tp)), (r 51, .inl (cI, 8192, .inl wr)), (r 52, .inl (cI, 4200, .inl g))]) (hS : va_S A s.heap H locs), W p l e ({ frames := 1, cells := 0, slots := 0, locals := 25 }) s m ([.ref h, .int (nI i9), .long t0, .int (nI n), .int sd, .int fl]).toArray below meth cd H locs 0 0 (MQ below (va_Qi (fun r0 (u : MWQ) => (((nI i9) < 0 ∨ 2097151 < (nI i9) ∨ (nI n) < 0 ∨ 4000 < (nI n) ∨ 8589934592 ≤ t0) ∧ r0 = 0 ∧ u = (1, nI T.length, rs, tp, wr, ro)) ∨ (∃ a9 b9 : Nat, (nI i9) = nI a9 ∧ a9 ≤ 2097151 ∧ (nI n) = nI b9 ∧ b9 ≤ 4000 ∧ t0 < 8589934592 ∧ ((¬ wpRm T.length t0 b9 ∧ r0 = -1 ∧ u = (0, nI T.length, rs, tp, wr, ro)) ∨ (wpRm T.length t0 b9 ∧ MW T (mpL (nI (a9 / 8192)) t0 (if fl = 0 then 0 else (nI (b9 + 3 + tx t0)).toInt64) sd b9) (a9 % 8192) wf wr u r0)))) (fun (u : MWQ) t => zW D (A) [(h, .inr (13, mO r u.1 u.2.1 le lv pg pn pl u.2.2.1)), (r 1, .inl (cI, 9400, .inl u.2.2.2.1)), (r 51, .inl (cI, 8192, .inl u.2.2.2.2.1)), (r 52, .inl (cI, 4200, .inl u.2.2.2.2.2))] [(cI, .int)] t) (A)) ([.ref h, .int (nI i9), .long t0, .int (nI n), .int sd, .int fl]).toArray s 0 0 (A)) (F0 m 215 ls []) := by
                  intro N215
                  induction N215 with
                  | zero => intro j X g H locs ls hm hj hX hg hl hP hD hS; exact absurd hm (Nat.not_lt_zero _)
                  | succ N215 ih215 =>
                    intro j X g H locs ls hm hj hX hg hl hP hD hS
                    refine lv_iload hx hb d_Mo_writePiece_215 (lv_at hl 4 rfl) ?_
                    refine lv_iload hx hb d_Mo_writePiece_217 (lv_at hl 2 rfl) ?_
                    refine lv_icmp_ge (tgt := 255) hx hb d_Mo_writePiece_219 rfl (fun h219 => ?_) (fun h219 => ?_)
                    · have h219 := (nI_leI (by omega) (by omega)).mp h219
                      have hxl := mp_xl hX hj
                      have hxe := mp_end hX h219
                      refine lv_aload_n hx hb d_Mo_writePiece_255 rfl (lv_at hl 0 rfl) ?_
                      refine lv_iload_n hx hb d_Mo_writePiece_256 rfl (lv_at hl 1 rfl) ?_
                      refine lv_sipush (v := 8192) hx hb d_Mo_writePiece_257 (by decide) ?_
                      refine lv_irem hx hb d_Mo_writePiece_260 (by decide) ?_
                      refine z_topi (w := nI (i9 % 8192)) (pk_rem (d := 8192) (by omega) (by omega) (by omega)) ?_
                      have hPc := hP.sub (ws' := [(h, .inr (13, mO r 0 (nI T.length) le lv pg pn pl (nI X.length))), (r 1, .inl (cI, 9400, .inl tp)), (r 51, .inl (cI, 8192, .inl wr)), (r 52, .inl (cI, 4200, .inl g))]) [0, 1, 2, 3] rfl
                      have hKc := hK.sub (tys' := [(cI, .int)]) [0] rfl
                      have hDc := hD.sub (ws' := [(h, .inr (13, mO r 0 (nI T.length) le lv pg pn pl (nI X.length))), (r 1, .inl (cI, 9400, .inl tp)), (r 51, .inl (cI, 8192, .inl wr)), (r 52, .inl (cI, 4200, .inl g))]) [0, 1, 2, 3] (by decide) rfl
                      have hFc := va_free (wc := [(h, .inr (13, mO r 0 (nI T.length) le lv pg pn pl (nI X.length))), (r 1, .inl (cI, 9400, .inl tp)), (r 51, .inl (cI, 8192, .inl wr)), (r 52, .inl (cI, 4200, .inl g))]) hD hS hA [0, 1, 2, 3] rfl
                      refine va_callv (va_runV (As := [.int (nI (i9 % 8192))]) (rest := []) ⟨hx, hb, hml, hown, hts⟩ (c_Mo_writePackets l D H.size cI h r 0 le lv pg pn pl X g T tp (wf (i9 % 8192)) (i9 % 8192) wr hg (by omega) htp (by rw [hxl]; omega) (by omega) (hwf _ (by omega)) (hwb _ (by omega))) (z_cV hN wd_1461 wd_67 wd_1458 hd_Mo_writePackets rfl rfl ⟨Nat.le_of_ble_eq_true rfl, Nat.le_of_ble_eq_true rfl⟩ wd_1460 wd_57) (z_preVm (va_recv (ci := 13) (q0 := 0) hK hP rfl rfl) hPc hKc hN hDc) rfl rfl hl.1 rfl (lv_room (Nat.le_of_ble_eq_true rfl)) d_Mo_writePiece_261 ⟨Nat.le_of_ble_eq_true rfl, Nat.le_of_ble_eq_true rfl⟩) hS (fun q _ h => hFc q h) hFc (fun g261 t H locs ht hvm e261 hB hz1 hk1 hS => ?_)
                      obtain ⟨hP1, hK1, hD1⟩ := hB
                      rw [ht] at hP1
                      obtain ⟨hP, hD⟩ := va_join (wr := []) (w1 := [(h, .inr (13, mO r 0 (nI (T ++ ppL (i9 % 8192) (wf (i9 % 8192)) X.length 0 X).length) le lv pg pn pl (nI X.length))), (r 1, .inl (cI, 9400, .inl g261)), (r 51, .inl (cI, 8192, .inl (upd wr (i9 % 8192) (nI ((wf (i9 % 8192)) + (X.length + 183) / 184))))), (r 52, .inl (cI, 4200, .inl g))]) hP hD [0, 1, 2, 3] [] rfl rfl (by decide) (by decide) hk1 hFc hP1 hD1
                      clear hk1 hP1 hD1 hFc hPc hDc hz1
                      have hP : va_P D classes [(h, .inr (13, mO r 0 (nI (T ++ ppL (i9 % 8192) (wf (i9 % 8192)) X.length 0 X).length) le lv pg pn pl (nI X.length))), (r 1, .inl (cI, 9400, .inl g261)), (r 51, .inl (cI, 8192, .inl (upd wr (i9 % 8192) (nI ((wf (i9 % 8192)) + (X.length + 183) / 184))))), (r 52, .inl (cI, 4200, .inl g))] H := hP
                      have hD : va_D A [(h, .inr (13, mO r 0 (nI (T ++ ppL (i9 % 8192) (wf (i9 % 8192)) X.length 0 X).length) le lv pg pn pl (nI X.length))), (r 1, .inl (cI, 9400, .inl g261)), (r 51, .inl (cI, 8192, .inl (upd wr (i9 % 8192) (nI ((wf (i9 % 8192)) + (X.length + 183) / 184))))), (r 52, .inl (cI, 4200, .inl g))] := hD
                      refine lv_aload_n hx hb d_Mo_writePiece_264 rfl (lv_at hl 0 rfl) ?_
                      refine va_get (D := D) (ci := 13) (v := .int (nI (T ++ ppL (i9 % 8192) (wf (i9 % 8192)) X.length 0 X).length)) (C := R_Mo) (T := F_Mo) (N := 54) hx hb hts i_Mo hown hK hP 0 rfl rfl 2 (by decide) (hts _ wd_1090) (fun _ h9 => h9) rfl d_Mo_writePiece_265 ?_
                      have hP9 := hP.sub (ws' := [(h, .inr (13, mO r 0 (nI (T ++ ppL (i9 % 8192) (wf (i9 % 8192)) X.length 0 X).length) le lv pg pn pl (nI X.length))), (r 1, .inl (cI, 9400, .inl g261)), (r 51, .inl (cI, 8192, .inl (upd wr (i9 % 8192) (nI ((wf (i9 % 8192)) + (X.length + 183) / 184))))), (r 52, .inl (cI, 4200, .inl g))]) [0, 1, 2, 3] rfl
                      have hD9 := hD.sub (ws' := [(h, .inr (13, mO r 0 (nI (T ++ ppL (i9 % 8192) (wf (i9 % 8192)) X.length 0 X).length) le lv pg pn pl (nI X.length))), (r 1, .inl (cI, 9400, .inl g261)), (r 51, .inl (cI, 8192, .inl (upd wr (i9 % 8192) (nI ((wf (i9 % 8192)) + (X.length + 183) / 184))))), (r 52, .inl (cI, 4200, .inl g))]) [0, 1, 2, 3] (by decide) rfl
                      have hK9 := hK.sub (tys' := [(cI, .int)]) [0] rfl
                      exact W.iret (v := (nI (T ++ ppL (i9 % 8192) (wf (i9 % 8192)) X.length 0 X).length)) hx hb hr (fun t ht hW => ⟨⟨_, (0, nI (T ++ ppL (i9 % 8192) (wf (i9 % 8192)) X.length 0 X).length, nI X.length, g261, upd wr (i9 % 8192) (nI (wf (i9 % 8192) + (X.length + 183) / 184)), g), rfl, Or.inr ⟨i9, n, rfl, hi9, rfl, hn4, h30, Or.inr ⟨h75, by rw [← hxe]; exact ⟨rfl, e261, rfl, rfl, rfl⟩⟩⟩, ⟨by rw [ht]; exact hP9, va_K.moved hW.alike hK9, hD9⟩⟩, hS.F ht⟩) hS.2.2 d_Mo_writePiece_268
                    · have h219 := mt (nI_leI (by omega) (by omega)).mpr h219
                      have hxl := mp_xl hX hj
                      refine lv_ldcw hx hb hown (hts _ wd_1472) d_Mo_writePiece_222 ?_
                      refine lv_iload hx hb d_Mo_writePiece_225 (lv_at hl 3 rfl) ?_
                      refine lv_imul hx hb d_Mo_writePiece_227 ?_
                      refine lv_sipush (v := 12345) hx hb d_Mo_writePiece_228 (by decide) ?_
                      refine lv_iadd hx hb d_Mo_writePiece_231 ?_
                      refine z_topi (w := gnX sd (j + 1)) rfl ?_
                      refine lv_istore (lv' := [(8, .int (gnX sd (j + 1))), (0, .ref h), (1, .int (nI i9)), (4, .int (nI n)), (9, .int (nI j))]) hx hb d_Mo_writePiece_232 hl (by decide) rfl (fun ls hl => ?_)
                      refine lv_aload_n hx hb d_Mo_writePiece_234 rfl (lv_at hl 1 rfl) ?_
                      refine lv_iload hx hb d_Mo_writePiece_235 (lv_at hl 0 rfl) ?_
                      refine lv_bipush (v := 16) hx hb d_Mo_writePiece_237 (by decide) ?_
                      refine lv_ishr hx hb d_Mo_writePiece_239 ?_
                      refine lv_sipush (v := 255) hx hb d_Mo_writePiece_240 (by decide) ?_
                      refine lv_iand hx hb d_Mo_writePiece_243 ?_
                      refine lv_i2l (v := (((gnX sd (j + 1)) >>> (16 &&& 31)) &&& 255).toInt64) hx hb d_Mo_writePiece_244 rfl ?_
                      refine lv_iconst (v := 1) hx hb d_Mo_writePiece_245 (by decide) ?_
                      have hPc := hP.sub (ws' := [(h, .inr (13, mO r 0 (nI T.length) le lv pg pn pl (nI X.length))), (r 52, .inl (cI, 4200, .inl g))]) [0, 3] rfl
                      have hKc := hK.sub (tys' := [(cI, .int)]) [0] rfl
                      have hDc := hD.sub (ws' := [(h, .inr (13, mO r 0 (nI T.length) le lv pg pn pl (nI X.length))), (r 52, .inl (cI, 4200, .inl g))]) [0, 3] (by decide) rfl
                      have hFc := va_free (wc := [(h, .inr (13, mO r 0 (nI T.length) le lv pg pn pl (nI X.length))), (r 52, .inl (cI, 4200, .inl g))]) hD hS hA [0, 3] rfl
                      refine va_callv (va_runV (As := [.long ((((gnX sd (j + 1)) >>> (16 &&& 31)) &&& 255).toInt64), .int (nI 1)]) (rest := []) ⟨hx, hb, hml, hown, hts⟩ (c_Mo_put l D H.size cI h r 0 (nI T.length) le lv pg pn pl X g ((((gnX sd (j + 1)) >>> (16 &&& 31)) &&& 255).toInt64) 1 hg (by omega) (by omega) (by omega)) (z_cV hN wd_1451 wd_67 wd_1448 hd_Mo_put rfl rfl ⟨Nat.le_of_ble_eq_true rfl, Nat.le_of_ble_eq_true rfl⟩ wd_1450 wd_55) (z_preVm (va_recv (ci := 13) (q0 := 0) hK hP rfl rfl) hPc hKc hN hDc) rfl rfl hl.1 rfl (lv_room (Nat.le_of_ble_eq_true rfl)) d_Mo_writePiece_246 ⟨Nat.le_of_ble_eq_true rfl, Nat.le_of_ble_eq_true rfl⟩) hS (fun q _ h => hFc q h) hFc (fun g246 t H locs ht hvm e246 hB hz1 hk1 hS => ?_)
                      obtain ⟨hP1, hK1, hD1⟩ := hB
                      rw [ht] at hP1
                      obtain ⟨hP, hD⟩ := va_join (wr := [(r 1, .inl (cI, 9400, .inl tp)), (r 51, .inl (cI, 8192, .inl wr))]) (w1 := [(h, .inr (13, mO r 0 (nI T.length) le lv pg pn pl (nI (X ++ bsL ((((gnX sd (j + 1)) >>> (16 &&& 31)) &&& 255).toInt64) 1).length))), (r 52, .inl (cI, 4200, .inl g246))]) hP hD [0, 3] [1, 2] rfl rfl (by decide) (by decide) hk1 hFc hP1 hD1
                      clear hk1 hP1 hD1 hFc hPc hDc hz1
                      have hP : va_P D classes [(r 1, .inl (cI, 9400, .inl tp)), (r 51, .inl (cI, 8192, .inl wr)), (h, .inr (13, mO r 0 (nI T.length) le lv pg pn pl (nI (X ++ bsL ((((gnX sd (j + 1)) >>> (16 &&& 31)) &&& 255).toInt64) 1).length))), (r 52, .inl (cI, 4200, .inl g246))] H := hP
                      have hD : va_D A [(r 1, .inl (cI, 9400, .inl tp)), (r 51, .inl (cI, 8192, .inl wr)), (h, .inr (13, mO r 0 (nI T.length) le lv pg pn pl (nI (X ++ bsL ((((gnX sd (j + 1)) >>> (16 &&& 31)) &&& 255).toInt64) 1).length))), (r 52, .inl (cI, 4200, .inl g246))] := hD
                      refine lv_iinc (k := 4) (v := nI (j + 1)) (lv' := [(9, .int (nI (j + 1))), (8, .int (gnX sd (j + 1))), (0, .ref h), (1, .int (nI i9)), (4, .int (nI n))]) hx hb d_Mo_writePiece_249 hl rfl (nI_1 j) (by decide) rfl (fun ls hl => ?_)
                      refine lv_goto (tgt := 215) hx hb d_Mo_writePiece_252 rfl ?_
                      exact ih215 (j + 1) (X ++ bsL (((gnX sd (j + 1)) >>> ((16 : Int32) &&& 31)) &&& 255).toInt64 1) g246 H locs ls (by omega) (by omega) (mp_go hX (by omega)) e246 (lv_sub hl [2, 3, 4, 1, 0] rfl) (hP.sub [2, 0, 1, 3] rfl) (hD.sub [2, 0, 1, 3] (by decide) rfl) hS
                exact loop215 _ 0 (((((((([] : List Int32) ++ bsL 1 3) ++ bsL ((nI (i9 / 8192)).toInt64) 1) ++ bsL (if fl = 0 then 0 else (nI (n + 3 + tx t0)).toInt64) 2) ++ bsL 128 1) ++ bsL (if t0 < 0 then 0 else 128) 1) ++ bsL ((nI (tx t0)).toInt64) 1) ++ bsL (mpT t0) 5) g205 H locs ls (Nat.lt_succ_self _) (Nat.zero_le _) (mp_i5 h159 rfl) e205 (lv_sub hl [3, 4, 6, 1, 0] rfl) (hP.sub [2, 0, 1, 3] rfl) (hD.sub [2, 0, 1, 3] (by decide) rfl) hS
            · have h75 := mp_full h75
              refine lv_iconst (v := (-1)) hx hb d_Mo_writePiece_78 (by decide) ?_
              have hP9 := hP.sub (ws' := [(h, .inr (13, mO r 0 (nI T.length) le lv pg pn pl rs)), (r 1, .inl (cI, 9400, .inl tp)), (r 51, .inl (cI, 8192, .inl wr)), (r 52, .inl (cI, 4200, .inl ro))]) [0, 1, 2, 3] rfl
              have hD9 := hD.sub (ws' := [(h, .inr (13, mO r 0 (nI T.length) le lv pg pn pl rs)), (r 1, .inl (cI, 9400, .inl tp)), (r 51, .inl (cI, 8192, .inl wr)), (r 52, .inl (cI, 4200, .inl ro))]) [0, 1, 2, 3] (by decide) rfl
              have hK9 := hK.sub (tys' := [(cI, .int)]) [0] rfl
              exact W.iret (v := (-1)) hx hb hr (fun t ht hW => ⟨⟨_, (0, nI T.length, rs, tp, wr, ro), rfl, Or.inr ⟨i9, n, rfl, hi9, rfl, hn4, h30, Or.inl ⟨h75, rfl, rfl⟩⟩, ⟨by rw [ht]; exact hP9, va_K.moved hW.alike hK9, hD9⟩⟩, hS.F ht⟩) hS.2.2 d_Mo_writePiece_79
          · have h30 : 8589934592 ≤ t0 := Int64.not_lt.mp (mt (lg_cmp_lt _ _).mpr h30)
            refine lv_iconst (v := 1) hx hb d_Mo_writePiece_33 (by decide) ?_
            refine lv_goto (tgt := 38) hx hb d_Mo_writePiece_34 rfl ?_
            refine va_put (D := D) (ci := 13) (v := .int 1) (ty := .int) (C := R_Mo) (T := F_Mo) (N := 54) hx hb hts i_Mo t_Mo t_Mo_ok n_Mo hown hK hP hD hS 0 rfl rfl 0 (by decide) (hts _ wd_1088) (fun _ h9 => h9) rfl (by decide +kernel) rfl rfl (Nat.le_of_ble_eq_true rfl) d_Mo_writePiece_38 (fun H locs hP hD hS => ?_)
            have hP : va_P D classes [(h, .inr (13, mO r 1 (nI T.length) le lv pg pn pl rs)), (r 1, .inl (cI, 9400, .inl tp)), (r 51, .inl (cI, 8192, .inl wr)), (r 52, .inl (cI, 4200, .inl ro))] H := hP
            have hD : va_D A [(h, .inr (13, mO r 1 (nI T.length) le lv pg pn pl rs)), (r 1, .inl (cI, 9400, .inl tp)), (r 51, .inl (cI, 8192, .inl wr)), (r 52, .inl (cI, 4200, .inl ro))] := hD
            refine lv_aload_n hx hb d_Mo_writePiece_41 rfl (lv_at hl 0 rfl) ?_
            refine va_get (D := D) (ci := 13) (v := .int 1) (C := R_Mo) (T := F_Mo) (N := 54) hx hb hts i_Mo hown hK hP 0 rfl rfl 0 (by decide) (hts _ wd_1088) (fun _ h9 => h9) rfl d_Mo_writePiece_42 ?_
            refine lv_if_le (tgt := 50) hx hb d_Mo_writePiece_45 rfl (fun h9 => absurd h9 (by decide)) (fun h45 => ?_)
            refine lv_iconst (v := 0) hx hb d_Mo_writePiece_48 (by decide) ?_
            have hP9 := hP.sub (ws' := [(h, .inr (13, mO r 1 (nI T.length) le lv pg pn pl rs)), (r 1, .inl (cI, 9400, .inl tp)), (r 51, .inl (cI, 8192, .inl wr)), (r 52, .inl (cI, 4200, .inl ro))]) [0, 1, 2, 3] rfl
            have hD9 := hD.sub (ws' := [(h, .inr (13, mO r 1 (nI T.length) le lv pg pn pl rs)), (r 1, .inl (cI, 9400, .inl tp)), (r 51, .inl (cI, 8192, .inl wr)), (r 52, .inl (cI, 4200, .inl ro))]) [0, 1, 2, 3] (by decide) rfl
            have hK9 := hK.sub (tys' := [(cI, .int)]) [0] rfl
            exact W.iret (v := 0) hx hb hr (fun t ht hW => ⟨⟨_, (1, nI T.length, rs, tp, wr, ro), rfl, Or.inl ⟨by first | exact Or.inl h2 | exact Or.inr (Or.inl h9) | exact Or.inr (Or.inr (Or.inl h14)) | exact Or.inr (Or.inr (Or.inr (Or.inl h22))) | exact Or.inr (Or.inr (Or.inr (Or.inr h30))), rfl, rfl⟩, ⟨by rw [ht]; exact hP9, va_K.moved hW.alike hK9, hD9⟩⟩, hS.F ht⟩) hS.2.2 d_Mo_writePiece_49
