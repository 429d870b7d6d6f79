theorem wd_0 : (Jvm.Cond.selects "StreamSplitter$Receiver" ({ cls := "StreamSplitter$Receiver", name := "isBad", desc := "(III)Z" } : Jvm.MethodName) ({ cls := "StreamSplitter$Receiver", name := "isBad", desc := "(III)Z" } : Jvm.MethodName)) ∈ lw_ok := List.mem_filter.mpr ⟨List.mem_of_getElem? (i := 0) (by decide +kernel), rfl⟩
theorem wd_1 : (Jvm.Cond.selects "StreamSplitter$Receiver" ({ cls := "StreamSplitter$Receiver", name := "follow", desc := "(LStreamSplitter$Lane;IZ)Z" } : Jvm.MethodName) ({ cls := "StreamSplitter$Receiver", name := "follow", desc := "(LStreamSplitter$Lane;IZ)Z" } : Jvm.MethodName)) ∈ lw_ok := List.mem_filter.mpr ⟨List.mem_of_getElem? (i := 1) (by decide +kernel), rfl⟩
theorem wd_222 : (Jvm.Cond.methodLink "StreamSplitter$Receiver" (48 : Nat) ({ cls := "StreamSplitter$Receiver", name := "isBad", desc := "(III)Z" } : Jvm.MethodName)) ∈ lw_ok := List.mem_filter.mpr ⟨List.mem_of_getElem? (i := 222) (by decide +kernel), rfl⟩
theorem wd_224 : (Jvm.Cond.instanceMethod ({ cls := "StreamSplitter$Receiver", name := "isBad", desc := "(III)Z" } : Jvm.MethodName)) ∈ lw_ok := List.mem_filter.mpr ⟨List.mem_of_getElem? (i := 224) (by decide +kernel), rfl⟩
set_option maxRecDepth 100000 in
theorem wd_225 : (Jvm.Cond.code ({ cls := "StreamSplitter$Receiver", name := "isBad", desc := "(III)Z" } : Jvm.MethodName) prog_8_method_3_code (4 : Nat) (Option.some Jvm.ClassFile.FieldType.boolean)) ∈ lw_ok := List.mem_filter.mpr ⟨List.mem_of_getElem? (i := 225) (by rfl), rfl⟩
theorem wd_226 : (Jvm.Cond.methodLink "StreamSplitter$Receiver" (52 : Nat) ({ cls := "StreamSplitter$Lanes", name := "findOrMake", desc := "(I)LStreamSplitter$Lane;" } : Jvm.MethodName)) ∈ lw_ok := List.mem_filter.mpr ⟨List.mem_of_getElem? (i := 226) (by decide +kernel), rfl⟩
theorem wd_252 : (Jvm.Cond.fieldLinkNest "StreamSplitter$Receiver" (62 : Nat) "StreamSplitter$Lane" "clock" "J" "StreamSplitter") ∈ lw_ok := List.mem_filter.mpr ⟨List.mem_of_getElem? (i := 252) (by decide +kernel), rfl⟩
theorem wd_276 : (Jvm.Cond.constantLong "StreamSplitter$Receiver" (56 : Nat) (300 : Int64)) ∈ lw_ok := List.mem_filter.mpr ⟨List.mem_of_getElem? (i := 276) (by decide +kernel), rfl⟩
theorem wd_282 : (Jvm.Cond.methodLink "StreamSplitter$Receiver" (68 : Nat) ({ cls := "StreamSplitter$Receiver", name := "follow", desc := "(LStreamSplitter$Lane;IZ)Z" } : Jvm.MethodName)) ∈ lw_ok := List.mem_filter.mpr ⟨List.mem_of_getElem? (i := 282) (by decide +kernel), rfl⟩
theorem wd_284 : (Jvm.Cond.instanceMethod ({ cls := "StreamSplitter$Receiver", name := "follow", desc := "(LStreamSplitter$Lane;IZ)Z" } : Jvm.MethodName)) ∈ lw_ok := List.mem_filter.mpr ⟨List.mem_of_getElem? (i := 284) (by decide +kernel), rfl⟩
set_option maxRecDepth 100000 in
theorem wd_285 : (Jvm.Cond.code ({ cls := "StreamSplitter$Receiver", name := "follow", desc := "(LStreamSplitter$Lane;IZ)Z" } : Jvm.MethodName) prog_8_method_4_code (4 : Nat) (Option.some Jvm.ClassFile.FieldType.boolean)) ∈ lw_ok := List.mem_filter.mpr ⟨List.mem_of_getElem? (i := 285) (by rfl), rfl⟩
theorem hd_Receiver_follow : y_Receiver_follow.cls ≠ "java/lang/invoke/MethodHandle" ∧ y_Receiver_follow.cls ≠ "java/lang/invoke/VarHandle" ∧ (parseMethodDescriptor y_Receiver_follow.desc).map (fun d => d.parameters.length) = some 3 := by decide +kernel
theorem hd_Receiver_isBad : y_Receiver_isBad.cls ≠ "java/lang/invoke/MethodHandle" ∧ y_Receiver_isBad.cls ≠ "java/lang/invoke/VarHandle" ∧ (parseMethodDescriptor y_Receiver_isBad.desc).map (fun d => d.parameters.length) = some 3 := by decide +kernel
theorem d_Receiver_openPacket_0 : decode b_Receiver_openPacket 0 = .ok (.aload_n 0, 1) := by decide +kernel
theorem d_Receiver_openPacket_1 : decode b_Receiver_openPacket 1 = .ok (.getfield 34, 3) := by decide +kernel
theorem d_Receiver_openPacket_4 : decode b_Receiver_openPacket 4 = .ok (.iconst 1, 1) := by decide +kernel
theorem d_Receiver_openPacket_5 : decode b_Receiver_openPacket 5 = .ok (.dup2, 1) := by decide +kernel
theorem d_Receiver_openPacket_6 : decode b_Receiver_openPacket 6 = .ok (.iaload, 1) := by decide +kernel
theorem d_Receiver_openPacket_7 : decode b_Receiver_openPacket 7 = .ok (.iconst 1, 1) := by decide +kernel
theorem d_Receiver_openPacket_8 : decode b_Receiver_openPacket 8 = .ok (.iadd, 1) := by decide +kernel
theorem d_Receiver_openPacket_9 : decode b_Receiver_openPacket 9 = .ok (.iastore, 1) := by decide +kernel
theorem d_Receiver_openPacket_10 : decode b_Receiver_openPacket 10 = .ok (.aload_n 0, 1) := by decide +kernel
theorem d_Receiver_openPacket_11 : decode b_Receiver_openPacket 11 = .ok (.getfield 14, 3) := by decide +kernel
theorem d_Receiver_openPacket_14 : decode b_Receiver_openPacket 14 = .ok (.iload_n 1, 1) := by decide +kernel
theorem d_Receiver_openPacket_15 : decode b_Receiver_openPacket 15 = .ok (.iconst 3, 1) := by decide +kernel
theorem d_Receiver_openPacket_16 : decode b_Receiver_openPacket 16 = .ok (.iadd, 1) := by decide +kernel
theorem d_Receiver_openPacket_17 : decode b_Receiver_openPacket 17 = .ok (.invokevirtual 44, 3) := by decide +kernel
theorem d_Receiver_openPacket_20 : decode b_Receiver_openPacket 20 = .ok (.iconst 4, 1) := by decide +kernel
theorem d_Receiver_openPacket_21 : decode b_Receiver_openPacket 21 = .ok (.ishr, 1) := by decide +kernel
theorem d_Receiver_openPacket_22 : decode b_Receiver_openPacket 22 = .ok (.iconst 3, 1) := by decide +kernel
theorem d_Receiver_openPacket_23 : decode b_Receiver_openPacket 23 = .ok (.iand, 1) := by decide +kernel
theorem d_Receiver_openPacket_24 : decode b_Receiver_openPacket 24 = .ok (.istore_n 2, 1) := by decide +kernel
theorem d_Receiver_openPacket_25 : decode b_Receiver_openPacket 25 = .ok (.iload_n 2, 1) := by decide +kernel
theorem d_Receiver_openPacket_26 : decode b_Receiver_openPacket 26 = .ok (.iconst 2, 1) := by decide +kernel
theorem d_Receiver_openPacket_27 : decode b_Receiver_openPacket 27 = .ok (.if_icmp .lt 16, 3) := by decide +kernel
theorem d_Receiver_openPacket_30 : decode b_Receiver_openPacket 30 = .ok (.aload_n 0, 1) := by decide +kernel
theorem d_Receiver_openPacket_31 : decode b_Receiver_openPacket 31 = .ok (.getfield 14, 3) := by decide +kernel
theorem d_Receiver_openPacket_34 : decode b_Receiver_openPacket 34 = .ok (.iload_n 1, 1) := by decide +kernel
theorem d_Receiver_openPacket_35 : decode b_Receiver_openPacket 35 = .ok (.iconst 4, 1) := by decide +kernel
theorem d_Receiver_openPacket_36 : decode b_Receiver_openPacket 36 = .ok (.iadd, 1) := by decide +kernel
theorem d_Receiver_openPacket_37 : decode b_Receiver_openPacket 37 = .ok (.invokevirtual 44, 3) := by decide +kernel
theorem d_Receiver_openPacket_40 : decode b_Receiver_openPacket 40 = .ok (.goto 4, 3) := by decide +kernel
theorem d_Receiver_openPacket_43 : decode b_Receiver_openPacket 43 = .ok (.iconst 0, 1) := by decide +kernel
theorem d_Receiver_openPacket_44 : decode b_Receiver_openPacket 44 = .ok (.istore_n 3, 1) := by decide +kernel
theorem d_Receiver_openPacket_45 : decode b_Receiver_openPacket 45 = .ok (.aload_n 0, 1) := by decide +kernel
theorem d_Receiver_openPacket_46 : decode b_Receiver_openPacket 46 = .ok (.iload_n 1, 1) := by decide +kernel
theorem d_Receiver_openPacket_47 : decode b_Receiver_openPacket 47 = .ok (.iload_n 2, 1) := by decide +kernel
theorem d_Receiver_openPacket_48 : decode b_Receiver_openPacket 48 = .ok (.iload_n 3, 1) := by decide +kernel
theorem d_Receiver_openPacket_49 : decode b_Receiver_openPacket 49 = .ok (.invokevirtual 48, 3) := by decide +kernel
theorem d_Receiver_openPacket_52 : decode b_Receiver_openPacket 52 = .ok (.ifCond .eq 15, 3) := by decide +kernel
theorem d_Receiver_openPacket_55 : decode b_Receiver_openPacket 55 = .ok (.aload_n 0, 1) := by decide +kernel
theorem d_Receiver_openPacket_56 : decode b_Receiver_openPacket 56 = .ok (.getfield 34, 3) := by decide +kernel
theorem d_Receiver_openPacket_59 : decode b_Receiver_openPacket 59 = .ok (.iconst 2, 1) := by decide +kernel
theorem d_Receiver_openPacket_60 : decode b_Receiver_openPacket 60 = .ok (.dup2, 1) := by decide +kernel
theorem d_Receiver_openPacket_61 : decode b_Receiver_openPacket 61 = .ok (.iaload, 1) := by decide +kernel
theorem d_Receiver_openPacket_62 : decode b_Receiver_openPacket 62 = .ok (.iconst 1, 1) := by decide +kernel
theorem d_Receiver_openPacket_63 : decode b_Receiver_openPacket 63 = .ok (.iadd, 1) := by decide +kernel
theorem d_Receiver_openPacket_64 : decode b_Receiver_openPacket 64 = .ok (.iastore, 1) := by decide +kernel
theorem d_Receiver_openPacket_65 : decode b_Receiver_openPacket 65 = .ok (.aconst_null, 1) := by decide +kernel
theorem d_Receiver_openPacket_66 : decode b_Receiver_openPacket 66 = .ok (.areturn, 1) := by decide +kernel
theorem d_Receiver_openPacket_67 : decode b_Receiver_openPacket 67 = .ok (.aload_n 0, 1) := by decide +kernel
theorem d_Receiver_openPacket_68 : decode b_Receiver_openPacket 68 = .ok (.getfield 14, 3) := by decide +kernel
theorem d_Receiver_openPacket_71 : decode b_Receiver_openPacket 71 = .ok (.iload_n 1, 1) := by decide +kernel
theorem d_Receiver_openPacket_72 : decode b_Receiver_openPacket 72 = .ok (.iconst 1, 1) := by decide +kernel
theorem d_Receiver_openPacket_73 : decode b_Receiver_openPacket 73 = .ok (.iadd, 1) := by decide +kernel
theorem d_Receiver_openPacket_74 : decode b_Receiver_openPacket 74 = .ok (.invokevirtual 44, 3) := by decide +kernel
theorem d_Receiver_openPacket_77 : decode b_Receiver_openPacket 77 = .ok (.bipush 31, 2) := by decide +kernel
theorem d_Receiver_openPacket_79 : decode b_Receiver_openPacket 79 = .ok (.iand, 1) := by decide +kernel
theorem d_Receiver_openPacket_80 : decode b_Receiver_openPacket 80 = .ok (.bipush 8, 2) := by decide +kernel
theorem d_Receiver_openPacket_82 : decode b_Receiver_openPacket 82 = .ok (.ishl, 1) := by decide +kernel
theorem d_Receiver_openPacket_83 : decode b_Receiver_openPacket 83 = .ok (.aload_n 0, 1) := by decide +kernel
theorem d_Receiver_openPacket_84 : decode b_Receiver_openPacket 84 = .ok (.getfield 14, 3) := by decide +kernel
theorem d_Receiver_openPacket_87 : decode b_Receiver_openPacket 87 = .ok (.iload_n 1, 1) := by decide +kernel
theorem d_Receiver_openPacket_88 : decode b_Receiver_openPacket 88 = .ok (.iconst 2, 1) := by decide +kernel
theorem d_Receiver_openPacket_89 : decode b_Receiver_openPacket 89 = .ok (.iadd, 1) := by decide +kernel
theorem d_Receiver_openPacket_90 : decode b_Receiver_openPacket 90 = .ok (.invokevirtual 44, 3) := by decide +kernel
theorem d_Receiver_openPacket_93 : decode b_Receiver_openPacket 93 = .ok (.ior, 1) := by decide +kernel
theorem d_Receiver_openPacket_94 : decode b_Receiver_openPacket 94 = .ok (.istore 4, 2) := by decide +kernel
theorem d_Receiver_openPacket_96 : decode b_Receiver_openPacket 96 = .ok (.aload_n 0, 1) := by decide +kernel
theorem d_Receiver_openPacket_97 : decode b_Receiver_openPacket 97 = .ok (.getfield 23, 3) := by decide +kernel
theorem d_Receiver_openPacket_100 : decode b_Receiver_openPacket 100 = .ok (.iload 4, 2) := by decide +kernel
theorem d_Receiver_openPacket_102 : decode b_Receiver_openPacket 102 = .ok (.invokevirtual 52, 3) := by decide +kernel
theorem d_Receiver_openPacket_105 : decode b_Receiver_openPacket 105 = .ok (.astore 5, 2) := by decide +kernel
theorem d_Receiver_openPacket_107 : decode b_Receiver_openPacket 107 = .ok (.iload_n 3, 1) := by decide +kernel
theorem d_Receiver_openPacket_108 : decode b_Receiver_openPacket 108 = .ok (.ifCond .le 16, 3) := by decide +kernel
theorem d_Receiver_openPacket_111 : decode b_Receiver_openPacket 111 = .ok (.aload_n 0, 1) := by decide +kernel
theorem d_Receiver_openPacket_112 : decode b_Receiver_openPacket 112 = .ok (.getfield 14, 3) := by decide +kernel
theorem d_Receiver_openPacket_115 : decode b_Receiver_openPacket 115 = .ok (.iload_n 1, 1) := by decide +kernel
theorem d_Receiver_openPacket_116 : decode b_Receiver_openPacket 116 = .ok (.iconst 5, 1) := by decide +kernel
theorem d_Receiver_openPacket_117 : decode b_Receiver_openPacket 117 = .ok (.iadd, 1) := by decide +kernel
theorem d_Receiver_openPacket_118 : decode b_Receiver_openPacket 118 = .ok (.invokevirtual 44, 3) := by decide +kernel
theorem d_Receiver_openPacket_121 : decode b_Receiver_openPacket 121 = .ok (.goto 4, 3) := by decide +kernel
theorem d_Receiver_openPacket_124 : decode b_Receiver_openPacket 124 = .ok (.iconst 0, 1) := by decide +kernel
theorem d_Receiver_openPacket_125 : decode b_Receiver_openPacket 125 = .ok (.istore 6, 2) := by decide +kernel
theorem d_Receiver_openPacket_127 : decode b_Receiver_openPacket 127 = .ok (.iload 6, 2) := by decide +kernel
theorem d_Receiver_openPacket_129 : decode b_Receiver_openPacket 129 = .ok (.bipush 16, 2) := by decide +kernel
theorem d_Receiver_openPacket_131 : decode b_Receiver_openPacket 131 = .ok (.iand, 1) := by decide +kernel
theorem d_Receiver_openPacket_132 : decode b_Receiver_openPacket 132 = .ok (.ifCond .eq 53, 3) := by decide +kernel
theorem d_Receiver_openPacket_135 : decode b_Receiver_openPacket 135 = .ok (.iload_n 3, 1) := by decide +kernel
theorem d_Receiver_openPacket_136 : decode b_Receiver_openPacket 136 = .ok (.bipush 7, 2) := by decide +kernel
theorem d_Receiver_openPacket_138 : decode b_Receiver_openPacket 138 = .ok (.if_icmp .lt 47, 3) := by decide +kernel
theorem d_Receiver_openPacket_141 : decode b_Receiver_openPacket 141 = .ok (.bipush 8, 2) := by decide +kernel
theorem d_Receiver_openPacket_143 : decode b_Receiver_openPacket 143 = .ok (.iload_n 1, 1) := by decide +kernel
theorem d_Receiver_openPacket_144 : decode b_Receiver_openPacket 144 = .ok (.bipush 6, 2) := by decide +kernel
theorem d_Receiver_openPacket_146 : decode b_Receiver_openPacket 146 = .ok (.iadd, 1) := by decide +kernel
theorem d_Receiver_openPacket_147 : decode b_Receiver_openPacket 147 = .ok (.imul, 1) := by decide +kernel
theorem d_Receiver_openPacket_148 : decode b_Receiver_openPacket 148 = .ok (.istore 7, 2) := by decide +kernel
theorem d_Receiver_openPacket_150 : decode b_Receiver_openPacket 150 = .ok (.aload 5, 2) := by decide +kernel
theorem d_Receiver_openPacket_152 : decode b_Receiver_openPacket 152 = .ok (.ldc2_w 56, 3) := by decide +kernel
theorem d_Receiver_openPacket_155 : decode b_Receiver_openPacket 155 = .ok (.aload_n 0, 1) := by decide +kernel
theorem d_Receiver_openPacket_156 : decode b_Receiver_openPacket 156 = .ok (.getfield 14, 3) := by decide +kernel
theorem d_Receiver_openPacket_159 : decode b_Receiver_openPacket 159 = .ok (.iload 7, 2) := by decide +kernel
theorem d_Receiver_openPacket_161 : decode b_Receiver_openPacket 161 = .ok (.bipush 33, 2) := by decide +kernel
theorem d_Receiver_openPacket_163 : decode b_Receiver_openPacket 163 = .ok (.invokevirtual 58, 3) := by decide +kernel
theorem d_Receiver_openPacket_166 : decode b_Receiver_openPacket 166 = .ok (.lmul, 1) := by decide +kernel
theorem d_Receiver_openPacket_167 : decode b_Receiver_openPacket 167 = .ok (.aload_n 0, 1) := by decide +kernel
theorem d_Receiver_openPacket_168 : decode b_Receiver_openPacket 168 = .ok (.getfield 14, 3) := by decide +kernel
theorem d_Receiver_openPacket_171 : decode b_Receiver_openPacket 171 = .ok (.iload 7, 2) := by decide +kernel
theorem d_Receiver_openPacket_173 : decode b_Receiver_openPacket 173 = .ok (.bipush 39, 2) := by decide +kernel
theorem d_Receiver_openPacket_175 : decode b_Receiver_openPacket 175 = .ok (.iadd, 1) := by decide +kernel
theorem d_Receiver_openPacket_176 : decode b_Receiver_openPacket 176 = .ok (.bipush 9, 2) := by decide +kernel
theorem d_Receiver_openPacket_178 : decode b_Receiver_openPacket 178 = .ok (.invokevirtual 58, 3) := by decide +kernel
theorem d_Receiver_openPacket_181 : decode b_Receiver_openPacket 181 = .ok (.ladd, 1) := by decide +kernel
theorem d_Receiver_openPacket_182 : decode b_Receiver_openPacket 182 = .ok (.putfield 62, 3) := by decide +kernel
theorem d_Receiver_openPacket_185 : decode b_Receiver_openPacket 185 = .ok (.iload 4, 2) := by decide +kernel
theorem d_Receiver_openPacket_187 : decode b_Receiver_openPacket 187 = .ok (.sipush 8191, 3) := by decide +kernel
theorem d_Receiver_openPacket_190 : decode b_Receiver_openPacket 190 = .ok (.if_icmp .eq 8, 3) := by decide +kernel
theorem d_Receiver_openPacket_193 : decode b_Receiver_openPacket 193 = .ok (.iload_n 2, 1) := by decide +kernel
theorem d_Receiver_openPacket_194 : decode b_Receiver_openPacket 194 = .ok (.iconst 2, 1) := by decide +kernel
theorem d_Receiver_openPacket_195 : decode b_Receiver_openPacket 195 = .ok (.if_icmp .ne 5, 3) := by decide +kernel
theorem d_Receiver_openPacket_198 : decode b_Receiver_openPacket 198 = .ok (.aconst_null, 1) := by decide +kernel
theorem d_Receiver_openPacket_199 : decode b_Receiver_openPacket 199 = .ok (.areturn, 1) := by decide +kernel
theorem d_Receiver_openPacket_200 : decode b_Receiver_openPacket 200 = .ok (.aload_n 0, 1) := by decide +kernel
theorem d_Receiver_openPacket_201 : decode b_Receiver_openPacket 201 = .ok (.aload 5, 2) := by decide +kernel
theorem d_Receiver_openPacket_203 : decode b_Receiver_openPacket 203 = .ok (.aload_n 0, 1) := by decide +kernel
theorem d_Receiver_openPacket_204 : decode b_Receiver_openPacket 204 = .ok (.getfield 14, 3) := by decide +kernel
theorem d_Receiver_openPacket_207 : decode b_Receiver_openPacket 207 = .ok (.iload_n 1, 1) := by decide +kernel
theorem d_Receiver_openPacket_208 : decode b_Receiver_openPacket 208 = .ok (.iconst 3, 1) := by decide +kernel
theorem d_Receiver_openPacket_209 : decode b_Receiver_openPacket 209 = .ok (.iadd, 1) := by decide +kernel
theorem d_Receiver_openPacket_210 : decode b_Receiver_openPacket 210 = .ok (.invokevirtual 44, 3) := by decide +kernel
theorem d_Receiver_openPacket_213 : decode b_Receiver_openPacket 213 = .ok (.bipush 15, 2) := by decide +kernel
theorem d_Receiver_openPacket_215 : decode b_Receiver_openPacket 215 = .ok (.iand, 1) := by decide +kernel
theorem d_Receiver_openPacket_216 : decode b_Receiver_openPacket 216 = .ok (.iload 6, 2) := by decide +kernel
theorem d_Receiver_openPacket_218 : decode b_Receiver_openPacket 218 = .ok (.sipush 128, 3) := by decide +kernel
theorem d_Receiver_openPacket_221 : decode b_Receiver_openPacket 221 = .ok (.iand, 1) := by decide +kernel
theorem d_Receiver_openPacket_222 : decode b_Receiver_openPacket 222 = .ok (.ifCond .eq 7, 3) := by decide +kernel
theorem d_Receiver_openPacket_225 : decode b_Receiver_openPacket 225 = .ok (.iconst 1, 1) := by decide +kernel
theorem d_Receiver_openPacket_226 : decode b_Receiver_openPacket 226 = .ok (.goto 4, 3) := by decide +kernel
theorem d_Receiver_openPacket_229 : decode b_Receiver_openPacket 229 = .ok (.iconst 0, 1) := by decide +kernel
theorem d_Receiver_openPacket_230 : decode b_Receiver_openPacket 230 = .ok (.invokevirtual 68, 3) := by decide +kernel
theorem d_Receiver_openPacket_233 : decode b_Receiver_openPacket 233 = .ok (.istore 7, 2) := by decide +kernel
theorem d_Receiver_openPacket_235 : decode b_Receiver_openPacket 235 = .ok (.iload 7, 2) := by decide +kernel
theorem d_Receiver_openPacket_237 : decode b_Receiver_openPacket 237 = .ok (.ifCond .eq 28, 3) := by decide +kernel
theorem d_Receiver_openPacket_240 : decode b_Receiver_openPacket 240 = .ok (.aload_n 0, 1) := by decide +kernel
theorem d_Receiver_openPacket_241 : decode b_Receiver_openPacket 241 = .ok (.getfield 14, 3) := by decide +kernel
theorem d_Receiver_openPacket_244 : decode b_Receiver_openPacket 244 = .ok (.iload_n 1, 1) := by decide +kernel
theorem d_Receiver_openPacket_245 : decode b_Receiver_openPacket 245 = .ok (.iconst 3, 1) := by decide +kernel
theorem d_Receiver_openPacket_246 : decode b_Receiver_openPacket 246 = .ok (.iadd, 1) := by decide +kernel
theorem d_Receiver_openPacket_247 : decode b_Receiver_openPacket 247 = .ok (.invokevirtual 44, 3) := by decide +kernel
theorem d_Receiver_openPacket_250 : decode b_Receiver_openPacket 250 = .ok (.bipush 6, 2) := by decide +kernel
theorem d_Receiver_openPacket_252 : decode b_Receiver_openPacket 252 = .ok (.ishr, 1) := by decide +kernel
theorem d_Receiver_openPacket_253 : decode b_Receiver_openPacket 253 = .ok (.ifCond .eq 12, 3) := by decide +kernel
theorem d_Receiver_openPacket_256 : decode b_Receiver_openPacket 256 = .ok (.aload_n 0, 1) := by decide +kernel
theorem d_Receiver_openPacket_257 : decode b_Receiver_openPacket 257 = .ok (.aload 5, 2) := by decide +kernel
theorem d_Receiver_openPacket_259 : decode b_Receiver_openPacket 259 = .ok (.invokevirtual 72, 3) := by decide +kernel
theorem d_Receiver_openPacket_262 : decode b_Receiver_openPacket 262 = .ok (.iconst 0, 1) := by decide +kernel
theorem d_Receiver_openPacket_263 : decode b_Receiver_openPacket 263 = .ok (.istore 7, 2) := by decide +kernel
theorem d_Receiver_openPacket_265 : decode b_Receiver_openPacket 265 = .ok (.iload 7, 2) := by decide +kernel
theorem d_Receiver_openPacket_267 : decode b_Receiver_openPacket 267 = .ok (.ifCond .eq 8, 3) := by decide +kernel
theorem d_Receiver_openPacket_270 : decode b_Receiver_openPacket 270 = .ok (.aload 5, 2) := by decide +kernel
theorem d_Receiver_openPacket_272 : decode b_Receiver_openPacket 272 = .ok (.goto 4, 3) := by decide +kernel
theorem d_Receiver_openPacket_275 : decode b_Receiver_openPacket 275 = .ok (.aconst_null, 1) := by decide +kernel
theorem d_Receiver_openPacket_276 : decode b_Receiver_openPacket 276 = .ok (.areturn, 1) := by decide +kernel
set_option maxHeartbeats 16000000 in
set_option maxRecDepth 100000 in
theorem c_Receiver_openPacket (l : Launch) (D : va_G) (sz : Nat) (cB cI : ClassId) (rv tp ln tb ca dp : Nat) (cn : Nat → Int32) (cN : ClassId) (a hd n k : Nat) (f : Nat → Int32) (hf : Nat → Option Nat) (Ls : List LZ) (Q : va_W) (hn : n ≤ 9400) (hk : k + 188 ≤ n) (hLN : ∀ k, k < 256 → hf k = lhd k Ls) (hok : lok Ls) (hLse : ∀ z ∈ Ls, ∀ q, z.2.2.2.2.2.2.2.1 = some q → q.2.2.1 ≤ 1024) : Met l y_Receiver_openPacket [Cond.code y_Receiver_openPacket b_Receiver_openPacket 8 (some (.object "StreamSplitter$Lane"))] ({ frames := 3, cells := 1, slots := 8, locals := 64 }) (zM [.ref rv, .int (nI k)] D ([(rv, .inr (4, [.ref tp, .ref ln, .ref tb, .ref ca, .ref dp])), (ca, .inl (cI, 10, .inl cn)), (tp, .inr (0, [.ref a, .int (nI n)])), (a, .inl (cB, 9400, .inl f)), (ln, .inr (2, [.ref hd])), (hd, .inl (cN, 256, .inr (.inr (.inr (.inr hf)))))] ++ (lpl cB Ls ++ Q)) [(cB, .byte), (cI, .int), (cN, .object "StreamSplitter$Lane")] sz) (va_Qq (fun r (u : OU9) => (opBad f n k ∧ r = none ∧ u = (cup (cup cn 1) 2, Ls, hf)) ∨ (¬ opBad f n k ∧ ∃ T1 T2 z hf1, LM Ls T1 T2 z hf hf1 (opI f n k) ∧ (r, u) = opR f n k (cup cn 1) z T1 T2 hf1)) (fun (u : OU9) t => zW D (va_A ([(rv, .inr (4, [.ref tp, .ref ln, .ref tb, .ref ca, .ref dp])), (ca, .inl (cI, 10, .inl cn)), (tp, .inr (0, [.ref a, .int (nI n)])), (a, .inl (cB, 9400, .inl f)), (ln, .inr (2, [.ref hd])), (hd, .inl (cN, 256, .inr (.inr (.inr (.inr hf)))))] ++ (lpl cB Ls ++ Q)) sz) ([(rv, .inr (4, [.ref tp, .ref ln, .ref tb, .ref ca, .ref dp])), (ca, .inl (cI, 10, .inl u.1)), (tp, .inr (0, [.ref a, .int (nI n)])), (a, .inl (cB, 9400, .inl f)), (ln, .inr (2, [.ref hd])), (hd, .inl (cN, 256, .inr (.inr (.inr (.inr u.2.2)))))] ++ (lpl cB u.2.1 ++ Q)) [(cB, .byte), (cI, .int), (cN, .object "StreamSplitter$Lane")] t) (va_A ([(rv, .inr (4, [.ref tp, .ref ln, .ref tb, .ref ca, .ref dp])), (ca, .inl (cI, 10, .inl cn)), (tp, .inr (0, [.ref a, .int (nI n)])), (a, .inl (cB, 9400, .inl f)), (ln, .inr (2, [.ref hd])), (hd, .inl (cN, 256, .inr (.inr (.inr (.inr hf)))))] ++ (lpl cB Ls ++ Q)) sz)) 1 8 (va_A ([(rv, .inr (4, [.ref tp, .ref ln, .ref tb, .ref ca, .ref dp])), (ca, .inl (cI, 10, .inl cn)), (tp, .inr (0, [.ref a, .int (nI n)])), (a, .inl (cB, 9400, .inl f)), (ln, .inr (2, [.ref hd])), (hd, .inl (cN, 256, .inr (.inr (.inr (.inr hf)))))] ++ (lpl cB Ls ++ Q)) sz) := by
  refine Met.ofW (cc := b_Receiver_openPacket) (maxL := 8) (ret := (some (.object "StreamSplitter$Lane"))) (by decide) rfl ?_
  intro p e s m args below meth cd s₁ Bd hml hv
  obtain ⟨rfl, hsz, hP, hK, hN, hD0⟩ := hv
  have hx := Bd.exec
  have hb := Bd.bytes
  have hr := Bd.returns
  have hts := hN.use (a := ([.ref rv, .int (nI k)]).toArray)
  have hown : s.vm.findClass R_Receiver = some m.cls := findClass_of_methodNamed Bd.named
  have hlocks := Bd.notSynchronized
  subst hsz
  have hD := hD0.self (sz := s.heap.size)
  clear hD0
  have hA : ∀ q : Nat, s.heap.size ≤ q → va_A ([(rv, .inr (4, [.ref tp, .ref ln, .ref tb, .ref ca, .ref dp])), (ca, .inl (cI, 10, .inl cn)), (tp, .inr (0, [.ref a, .int (nI n)])), (a, .inl (cB, 9400, .inl f)), (ln, .inr (2, [.ref hd])), (hd, .inl (cN, 256, .inr (.inr (.inr (.inr hf)))))] ++ (lpl cB Ls ++ Q)) s.heap.size q := fun q h => Or.inr h
  have hS : va_S (va_A ([(rv, .inr (4, [.ref tp, .ref ln, .ref tb, .ref ca, .ref dp])), (ca, .inl (cI, 10, .inl cn)), (tp, .inr (0, [.ref a, .int (nI n)])), (a, .inl (cB, 9400, .inl f)), (ln, .inr (2, [.ref hd])), (hd, .inl (cN, 256, .inr (.inr (.inr (.inr hf)))))] ++ (lpl cB Ls ++ Q)) s.heap.size) s.heap s.heap [] := va_S.rf
  generalize hAe : va_A ([(rv, .inr (4, [.ref tp, .ref ln, .ref tb, .ref ca, .ref dp])), (ca, .inl (cI, 10, .inl cn)), (tp, .inr (0, [.ref a, .int (nI n)])), (a, .inl (cB, 9400, .inl f)), (ln, .inr (2, [.ref hd])), (hd, .inl (cN, 256, .inr (.inr (.inr (.inr hf)))))] ++ (lpl cB Ls ++ Q)) s.heap.size = A at hD hA hS ⊢
  have hP : va_P D classes ([(rv, .inr (4, [.ref tp, .ref ln, .ref tb, .ref ca, .ref dp])), (ca, .inl (cI, 10, .inl cn)), (tp, .inr (0, [.ref a, .int (nI n)])), (a, .inl (cB, 9400, .inl f)), (ln, .inr (2, [.ref hd])), (hd, .inl (cN, 256, .inr (.inr (.inr (.inr hf)))))] ++ (lpl cB Ls ++ Q)) s.heap := hP
  have hl := lv_entry ([.ref rv, .int (nI k)]) (n := 8) (Nat.le_of_ble_eq_true rfl)
  rw [lg_entry_eq]
  generalize (lg_sl ([.ref rv, .int (nI k)]) ++ List.replicate (8 - (lg_sl ([.ref rv, .int (nI k)])).length) Slot.unset).toArray = ls at hl ⊢
  have hl : lv_has ls 8 [(0, .ref rv), (1, .int (nI k))] := hl
  have hP9 := opP_lt f n k
  have hX9 := opX_lt f n k
  have hF9 := opF_lt f n k
  refine lv_aload_n hx hb d_Receiver_openPacket_0 rfl (lv_at hl 0 rfl) ?_
  refine va_get (D := D) (ci := 4) (v := .ref ca) (C := R_Receiver) (T := F_Receiver) (N := 5) hx hb hts i_Receiver hown hK hP 0 rfl rfl 3 (by decide) (hts _ wd_181) (fun _ h9 => h9) rfl d_Receiver_openPacket_1 ?_
  refine lv_iconst (v := 1) hx hb d_Receiver_openPacket_4 (by decide) ?_
  refine lv_dup2_11 hx hb d_Receiver_openPacket_5 rfl rfl ?_
  refine z_iald hx hb hK hP 1 1 rfl rfl 1 rfl (by decide) (by decide) d_Receiver_openPacket_6 ?_
  refine lv_iconst (v := 1) hx hb d_Receiver_openPacket_7 (by decide) ?_
  refine lv_iadd hx hb d_Receiver_openPacket_8 ?_
  refine z_iast hx hb hK hP hD hS 1 1 rfl rfl 1 rfl (by decide) (by decide) d_Receiver_openPacket_9 (fun H locs hP hD hS => ?_)
  have hP : va_P D classes ([(rv, .inr (4, [.ref tp, .ref ln, .ref tb, .ref ca, .ref dp])), (ca, .inl (cI, 10, .inl (upd cn 1 ((cn 1) + 1)))), (tp, .inr (0, [.ref a, .int (nI n)])), (a, .inl (cB, 9400, .inl f)), (ln, .inr (2, [.ref hd])), (hd, .inl (cN, 256, .inr (.inr (.inr (.inr hf)))))] ++ (lpl cB Ls ++ Q)) H := hP
  have hD : va_D A ([(rv, .inr (4, [.ref tp, .ref ln, .ref tb, .ref ca, .ref dp])), (ca, .inl (cI, 10, .inl (upd cn 1 ((cn 1) + 1)))), (tp, .inr (0, [.ref a, .int (nI n)])), (a, .inl (cB, 9400, .inl f)), (ln, .inr (2, [.ref hd])), (hd, .inl (cN, 256, .inr (.inr (.inr (.inr hf)))))] ++ (lpl cB Ls ++ Q)) := hD
  rw [show upd cn 1 ((cn 1) + 1) = cup cn 1 from rfl] at hP hD
  have hP : va_P D classes ([(rv, .inr (4, [.ref tp, .ref ln, .ref tb, .ref ca, .ref dp])), (ca, .inl (cI, 10, .inl (cup cn 1))), (tp, .inr (0, [.ref a, .int (nI n)])), (a, .inl (cB, 9400, .inl f)), (ln, .inr (2, [.ref hd])), (hd, .inl (cN, 256, .inr (.inr (.inr (.inr hf)))))] ++ (lpl cB Ls ++ Q)) H := hP
  have hD : va_D A ([(rv, .inr (4, [.ref tp, .ref ln, .ref tb, .ref ca, .ref dp])), (ca, .inl (cI, 10, .inl (cup cn 1))), (tp, .inr (0, [.ref a, .int (nI n)])), (a, .inl (cB, 9400, .inl f)), (ln, .inr (2, [.ref hd])), (hd, .inl (cN, 256, .inr (.inr (.inr (.inr hf)))))] ++ (lpl cB Ls ++ Q)) := hD
  refine lv_aload_n hx hb d_Receiver_openPacket_10 rfl (lv_at hl 0 rfl) ?_
  refine va_get (D := D) (ci := 4) (v := .ref tp) (C := R_Receiver) (T := F_Receiver) (N := 5) hx hb hts i_Receiver hown hK hP 0 rfl rfl 0 (by decide) (hts _ wd_175) (fun _ h9 => h9) rfl d_Receiver_openPacket_11 ?_
  refine lv_iload_n hx hb d_Receiver_openPacket_14 rfl (lv_at hl 1 rfl) ?_
  refine lv_iconst (v := 3) hx hb d_Receiver_openPacket_15 (by decide) ?_
  refine lv_iadd hx hb d_Receiver_openPacket_16 ?_
  refine z_topi (w := nI (k + 3)) (nI_add _ 3) ?_
  have hPc := hP.sub (ws' := [(tp, .inr (0, [.ref a, .int (nI n)])), (a, .inl (cB, 9400, .inl f))]) [2, 3] rfl
  have hKc := hK.sub (tys' := [(cB, .byte)]) [0] rfl
  refine z_ci (va_runV (As := [.int (nI (k + 3))]) (rest := []) ⟨hx, hb, hml, hown, hts⟩ (c_Row_at l D cB tp a n 9400 f (nI (k + 3)) (by omega)) (z_cV hN wd_212 wd_61 wd_221 hd_Row_at rfl rfl ⟨Nat.le_of_ble_eq_true rfl, Nat.le_of_ble_eq_true rfl⟩ wd_210 wd_211) (z_preV (va_recv (ci := 0) (q0 := 2) hK hP rfl rfl) hPc hKc hN) rfl rfl hl.1 rfl (lv_room (Nat.le_of_ble_eq_true rfl)) d_Receiver_openPacket_17 ⟨Nat.le_of_ble_eq_true rfl, Nat.le_of_ble_eq_true rfl⟩) (fun r17 e17 => ?_)
  refine z_topi (w := rw_at f n 9400 (nI (k + 3))) e17 ?_
  refine z_topi (w := nI (rbN f n 9400 (k + 3))) (rb_eq _ _ _ _) ?_
  refine lv_iconst (v := 4) hx hb d_Receiver_openPacket_20 (by decide) ?_
  refine lv_ishr hx hb d_Receiver_openPacket_21 ?_
  refine lv_iconst (v := 3) hx hb d_Receiver_openPacket_22 (by decide) ?_
  refine lv_iand hx hb d_Receiver_openPacket_23 ?_
  refine z_topi (w := nI (opP f n k)) (op_pt _ (rb_lt _ _ _ _)) ?_
  refine lv_istore_n (lv' := [(2, .int (nI (opP f n k))), (0, .ref rv), (1, .int (nI k))]) hx hb d_Receiver_openPacket_24 rfl hl (by decide) rfl (fun ls hl => ?_)
  refine lv_iload_n hx hb d_Receiver_openPacket_25 rfl (lv_at hl 0 rfl) ?_
  refine lv_iconst (v := 2) hx hb d_Receiver_openPacket_26 (by decide) ?_
  suffices key27 : W p l e ({ frames := 3, cells := 1, slots := 8, locals := 64 }) s m ([.ref rv, .int (nI k)]).toArray below meth cd H locs 0 0 (MQ below (va_Qq (fun r (u : OU9) => (opBad f n k ∧ r = none ∧ u = (cup (cup cn 1) 2, Ls, hf)) ∨ (¬ opBad f n k ∧ ∃ T1 T2 z hf1, LM Ls T1 T2 z hf hf1 (opI f n k) ∧ (r, u) = opR f n k (cup cn 1) z T1 T2 hf1)) (fun (u : OU9) t => zW D (A) ([(rv, .inr (4, [.ref tp, .ref ln, .ref tb, .ref ca, .ref dp])), (ca, .inl (cI, 10, .inl u.1)), (tp, .inr (0, [.ref a, .int (nI n)])), (a, .inl (cB, 9400, .inl f)), (ln, .inr (2, [.ref hd])), (hd, .inl (cN, 256, .inr (.inr (.inr (.inr u.2.2)))))] ++ (lpl cB u.2.1 ++ Q)) [(cB, .byte), (cI, .int), (cN, .object "StreamSplitter$Lane")] t) (A)) ([.ref rv, .int (nI k)]).toArray s 1 8 (A)) (F0 m 44 ls [.int (nI (opX f n k))]) by
    refine lv_icmp_lt (tgt := 43) hx hb d_Receiver_openPacket_27 rfl (fun h27 => ?_) (fun h27 => ?_)
    · refine lv_iconst (v := 0) hx hb d_Receiver_openPacket_43 (by decide) ?_
      refine z_topi (w := (nI (opX f n k))) (by unfold opX; rw [if_pos ((nI_ltI (b := 2) (by omega) (by omega)).mp h27)]; rfl) ?_
      exact key27
    · refine lv_aload_n hx hb d_Receiver_openPacket_30 rfl (lv_at hl 1 rfl) ?_
      refine va_get (D := D) (ci := 4) (v := .ref tp) (C := R_Receiver) (T := F_Receiver) (N := 5) hx hb hts i_Receiver hown hK hP 0 rfl rfl 0 (by decide) (hts _ wd_175) (fun _ h9 => h9) rfl d_Receiver_openPacket_31 ?_
      refine lv_iload_n hx hb d_Receiver_openPacket_34 rfl (lv_at hl 2 rfl) ?_
      refine lv_iconst (v := 4) hx hb d_Receiver_openPacket_35 (by decide) ?_
      refine lv_iadd hx hb d_Receiver_openPacket_36 ?_
      refine z_topi (w := nI (k + 4)) (nI_add _ 4) ?_
      have hPc := hP.sub (ws' := [(tp, .inr (0, [.ref a, .int (nI n)])), (a, .inl (cB, 9400, .inl f))]) [2, 3] rfl
      have hKc := hK.sub (tys' := [(cB, .byte)]) [0] rfl
      refine z_ci (va_runV (As := [.int (nI (k + 4))]) (rest := []) ⟨hx, hb, hml, hown, hts⟩ (c_Row_at l D cB tp a n 9400 f (nI (k + 4)) (by omega)) (z_cV hN wd_212 wd_61 wd_221 hd_Row_at rfl rfl ⟨Nat.le_of_ble_eq_true rfl, Nat.le_of_ble_eq_true rfl⟩ wd_210 wd_211) (z_preV (va_recv (ci := 0) (q0 := 2) hK hP rfl rfl) hPc hKc hN) rfl rfl hl.1 rfl (lv_room (Nat.le_of_ble_eq_true rfl)) d_Receiver_openPacket_37 ⟨Nat.le_of_ble_eq_true rfl, Nat.le_of_ble_eq_true rfl⟩) (fun r37 e37 => ?_)
      refine z_topi (w := rw_at f n 9400 (nI (k + 4))) e37 ?_
      refine z_topi (w := nI (rbN f n 9400 (k + 4))) (rb_eq _ _ _ _) ?_
      refine lv_goto (tgt := 44) hx hb d_Receiver_openPacket_40 rfl ?_
      refine z_topi (w := (nI (opX f n k))) (by unfold opX; rw [if_neg (mt (nI_ltI (b := 2) (by omega) (by omega)).mpr h27)]) ?_
      exact key27
  refine lv_istore_n (lv' := [(3, .int (nI (opX f n k))), (2, .int (nI (opP f n k))), (0, .ref rv), (1, .int (nI k))]) hx hb d_Receiver_openPacket_44 rfl hl (by decide) rfl (fun ls hl => ?_)
  refine lv_aload_n hx hb d_Receiver_openPacket_45 rfl (lv_at hl 2 rfl) ?_
  refine lv_iload_n hx hb d_Receiver_openPacket_46 rfl (lv_at hl 3 rfl) ?_
  refine lv_iload_n hx hb d_Receiver_openPacket_47 rfl (lv_at hl 1 rfl) ?_
  refine lv_iload_n hx hb d_Receiver_openPacket_48 rfl (lv_at hl 0 rfl) ?_
  have hPc := hP.sub (ws' := [(rv, .inr (4, [.ref tp, .ref ln, .ref tb, .ref ca, .ref dp])), (tp, .inr (0, [.ref a, .int (nI n)])), (a, .inl (cB, 9400, .inl f))]) [0, 2, 3] rfl
  have hKc := hK.sub (tys' := [(cB, .byte)]) [0] rfl
  refine z_ci (va_runV (As := [.int (nI k), .int (nI (opP f n k)), .int (nI (opX f n k))]) (rest := []) ⟨hx, hb, hml, hown, hts⟩ (c_Receiver_isBad l D cB rv tp ln tb ca dp a n 9400 f k (nI (opP f n k)) (nI (opX f n k)) (by omega)) (z_cV hN wd_225 wd_60 wd_222 hd_Receiver_isBad rfl rfl ⟨Nat.le_of_ble_eq_true rfl, Nat.le_of_ble_eq_true rfl⟩ wd_224 wd_0) (z_preV (va_recv (ci := 4) (q0 := 0) hK hP rfl rfl) hPc hKc hN) rfl rfl hl.1 rfl (lv_room (Nat.le_of_ble_eq_true rfl)) d_Receiver_openPacket_49 ⟨Nat.le_of_ble_eq_true rfl, Nat.le_of_ble_eq_true rfl⟩) (fun r49 e49 => ?_)
  refine z_topi (w := if ¬ rw_at f n 9400 (nI (k + 1)) &&& 128 = 0 ∨ (nI (opP f n k)) = 0 ∨ ((nI (opP f n k)) = 2 ∧ ¬ (nI (opX f n k)) = 183) ∨ ((nI (opP f n k)) = 3 ∧ 182 < (nI (opX f n k))) then 1 else 0) e49 ?_
  refine lv_if_eq (tgt := 67) hx hb d_Receiver_openPacket_52 rfl (fun h52 => ?_) (fun h52 => ?_)
  · have hgood : ¬ opBad f n k := fun z => op_b1 h52 (op_bad.mpr z)
    refine lv_aload_n hx hb d_Receiver_openPacket_67 rfl (lv_at hl 2 rfl) ?_
    refine va_get (D := D) (ci := 4) (v := .ref tp) (C := R_Receiver) (T := F_Receiver) (N := 5) hx hb hts i_Receiver hown hK hP 0 rfl rfl 0 (by decide) (hts _ wd_175) (fun _ h9 => h9) rfl d_Receiver_openPacket_68 ?_
    refine lv_iload_n hx hb d_Receiver_openPacket_71 rfl (lv_at hl 3 rfl) ?_
    refine lv_iconst (v := 1) hx hb d_Receiver_openPacket_72 (by decide) ?_
    refine lv_iadd hx hb d_Receiver_openPacket_73 ?_
    refine z_topi (w := nI (k + 1)) (nI_add _ 1) ?_
    have hPc := hP.sub (ws' := [(tp, .inr (0, [.ref a, .int (nI n)])), (a, .inl (cB, 9400, .inl f))]) [2, 3] rfl
    have hKc := hK.sub (tys' := [(cB, .byte)]) [0] rfl
    refine z_ci (va_runV (As := [.int (nI (k + 1))]) (rest := []) ⟨hx, hb, hml, hown, hts⟩ (c_Row_at l D cB tp a n 9400 f (nI (k + 1)) (by omega)) (z_cV hN wd_212 wd_61 wd_221 hd_Row_at rfl rfl ⟨Nat.le_of_ble_eq_true rfl, Nat.le_of_ble_eq_true rfl⟩ wd_210 wd_211) (z_preV (va_recv (ci := 0) (q0 := 2) hK hP rfl rfl) hPc hKc hN) rfl rfl hl.1 rfl (lv_room (Nat.le_of_ble_eq_true rfl)) d_Receiver_openPacket_74 ⟨Nat.le_of_ble_eq_true rfl, Nat.le_of_ble_eq_true rfl⟩) (fun r74 e74 => ?_)
    refine z_topi (w := rw_at f n 9400 (nI (k + 1))) e74 ?_
    refine z_topi (w := nI (rbN f n 9400 (k + 1))) (rb_eq _ _ _ _) ?_
    refine lv_bipush (v := 31) hx hb d_Receiver_openPacket_77 (by decide) ?_
    refine lv_iand hx hb d_Receiver_openPacket_79 ?_
    refine z_topi (w := nI (rbN f n 9400 (k + 1) % 32)) (op_31 _ (rb_lt _ _ _ _)) ?_
    refine lv_bipush (v := 8) hx hb d_Receiver_openPacket_80 (by decide) ?_
    refine lv_ishl hx hb d_Receiver_openPacket_82 ?_
    refine lv_aload_n hx hb d_Receiver_openPacket_83 rfl (lv_at hl 2 rfl) ?_
    refine va_get (D := D) (ci := 4) (v := .ref tp) (C := R_Receiver) (T := F_Receiver) (N := 5) hx hb hts i_Receiver hown hK hP 0 rfl rfl 0 (by decide) (hts _ wd_175) (fun _ h9 => h9) rfl d_Receiver_openPacket_84 ?_
    refine lv_iload_n hx hb d_Receiver_openPacket_87 rfl (lv_at hl 3 rfl) ?_
    refine lv_iconst (v := 2) hx hb d_Receiver_openPacket_88 (by decide) ?_
    refine lv_iadd hx hb d_Receiver_openPacket_89 ?_
    refine z_topi (w := nI (k + 2)) (nI_add _ 2) ?_
    have hPc := hP.sub (ws' := [(tp, .inr (0, [.ref a, .int (nI n)])), (a, .inl (cB, 9400, .inl f))]) [2, 3] rfl
    have hKc := hK.sub (tys' := [(cB, .byte)]) [0] rfl
    refine z_ci (va_runV (As := [.int (nI (k + 2))]) (rest := [.int ((nI (rbN f n 9400 (k + 1) % 32)) <<< (8 &&& 31))]) ⟨hx, hb, hml, hown, hts⟩ (c_Row_at l D cB tp a n 9400 f (nI (k + 2)) (by omega)) (z_cV hN wd_212 wd_61 wd_221 hd_Row_at rfl rfl ⟨Nat.le_of_ble_eq_true rfl, Nat.le_of_ble_eq_true rfl⟩ wd_210 wd_211) (z_preV (va_recv (ci := 0) (q0 := 2) hK hP rfl rfl) hPc hKc hN) rfl rfl hl.1 rfl (lv_room (Nat.le_of_ble_eq_true rfl)) d_Receiver_openPacket_90 ⟨Nat.le_of_ble_eq_true rfl, Nat.le_of_ble_eq_true rfl⟩) (fun r90 e90 => ?_)
    refine z_topi (w := rw_at f n 9400 (nI (k + 2))) e90 ?_
    refine z_topi (w := nI (rbN f n 9400 (k + 2))) (rb_eq _ _ _ _) ?_
    refine lv_ior hx hb d_Receiver_openPacket_93 ?_
    refine z_topi (w := nI (opI f n k)) (pl_or0 (by omega) (rb_lt _ _ _ _)) ?_
    refine lv_istore (lv' := [(4, .int (nI (opI f n k))), (3, .int (nI (opX f n k))), (2, .int (nI (opP f n k))), (0, .ref rv), (1, .int (nI k))]) hx hb d_Receiver_openPacket_94 hl (by decide) rfl (fun ls hl => ?_)
    refine lv_aload_n hx hb d_Receiver_openPacket_96 rfl (lv_at hl 3 rfl) ?_
    refine va_get (D := D) (ci := 4) (v := .ref ln) (C := R_Receiver) (T := F_Receiver) (N := 5) hx hb hts i_Receiver hown hK hP 0 rfl rfl 1 (by decide) (hts _ wd_177) (fun _ h9 => h9) rfl d_Receiver_openPacket_97 ?_
    refine lv_iload hx hb d_Receiver_openPacket_100 (lv_at hl 0 rfl) ?_
    have lem105 : ∀ (T1 : List LZ) (T2 : List LZ) (hf1 : Nat → Option Nat) (la : Nat) (pid : Nat) (nx : Option Nat) (ct : Int32) (tw : Int32) (ck : Int64) (wr : Int32) (se : Option SQ9) (pi : Option PQ9) (H : Heap) (locs : List Loc) (ls : Array Slot) (hLM : LM Ls T1 T2 (la, pid, nx, ct, tw, ck, wr, se, pi) hf hf1 (opI f n k)) (hse : ∀ q, se = some q → q.2.2.1 ≤ 1024) (hpid : pid = opI f n k) (hl : lv_has ls 8 [(0, .ref rv), (1, .int (nI k)), (2, .int (nI (opP f n k))), (3, .int (nI (opX f n k))), (4, .int (nI pid))]) (hP : va_P D classes ([(rv, .inr (4, [.ref tp, .ref ln, .ref tb, .ref ca, .ref dp])), (ca, .inl (cI, 10, .inl (cup cn 1))), (tp, .inr (0, [.ref a, .int (nI n)])), (a, .inl (cB, 9400, .inl f)), (ln, .inr (2, [.ref hd])), (hd, .inl (cN, 256, .inr (.inr (.inr (.inr hf1)))))] ++ (lzc cB (la, pid, nx, ct, tw, ck, wr, se, pi) ++ (lpl cB (T1 ++ T2) ++ Q))) H) (hD : va_D A ([(rv, .inr (4, [.ref tp, .ref ln, .ref tb, .ref ca, .ref dp])), (ca, .inl (cI, 10, .inl (cup cn 1))), (tp, .inr (0, [.ref a, .int (nI n)])), (a, .inl (cB, 9400, .inl f)), (ln, .inr (2, [.ref hd])), (hd, .inl (cN, 256, .inr (.inr (.inr (.inr hf1)))))] ++ (lzc cB (la, pid, nx, ct, tw, ck, wr, se, pi) ++ (lpl cB (T1 ++ T2) ++ Q)))) (hS : va_S A s.heap H locs), W p l e ({ frames := 3, cells := 1, slots := 8, locals := 64 }) s m ([.ref rv, .int (nI k)]).toArray below meth cd H locs (0 + 1) (0 + 8) (MQ below (va_Qq (fun r (u : OU9) => (opBad f n k ∧ r = none ∧ u = (cup (cup cn 1) 2, Ls, hf)) ∨ (¬ opBad f n k ∧ ∃ T1 T2 z hf1, LM Ls T1 T2 z hf hf1 (opI f n k) ∧ (r, u) = opR f n k (cup cn 1) z T1 T2 hf1)) (fun (u : OU9) t => zW D (A) ([(rv, .inr (4, [.ref tp, .ref ln, .ref tb, .ref ca, .ref dp])), (ca, .inl (cI, 10, .inl u.1)), (tp, .inr (0, [.ref a, .int (nI n)])), (a, .inl (cB, 9400, .inl f)), (ln, .inr (2, [.ref hd])), (hd, .inl (cN, 256, .inr (.inr (.inr (.inr u.2.2)))))] ++ (lpl cB u.2.1 ++ Q)) [(cB, .byte), (cI, .int), (cN, .object "StreamSplitter$Lane")] t) (A)) ([.ref rv, .int (nI k)]).toArray s 1 8 (A)) (F0 m 105 ls [.ref la]) := by
      intro T1 T2 hf1 la pid nx ct tw ck wr se pi H locs ls hLM hse hpid hl hP hD hS
      have hpl : pid < 8192 := by rw [hpid]; exact opI_lt f n k
      have hX9 := opX_lt f n k
      have hF9 := opF_lt f n k
      have hP9 := opP_lt f n k
      refine lv_astore (lv' := [(5, .ref la), (0, .ref rv), (1, .int (nI k)), (2, .int (nI (opP f n k))), (3, .int (nI (opX f n k))), (4, .int (nI pid))]) hx hb d_Receiver_openPacket_105 hl (by decide) rfl (fun ls hl => ?_)
      refine lv_iload_n hx hb d_Receiver_openPacket_107 rfl (lv_at hl 4 rfl) ?_
      suffices key108 : W p l e ({ frames := 3, cells := 1, slots := 8, locals := 64 }) s m ([.ref rv, .int (nI k)]).toArray below meth cd H locs (0 + 1) (0 + 8) (MQ below (va_Qq (fun r (u : OU9) => (opBad f n k ∧ r = none ∧ u = (cup (cup cn 1) 2, Ls, hf)) ∨ (¬ opBad f n k ∧ ∃ T1 T2 z hf1, LM Ls T1 T2 z hf hf1 (opI f n k) ∧ (r, u) = opR f n k (cup cn 1) z T1 T2 hf1)) (fun (u : OU9) t => zW D (A) ([(rv, .inr (4, [.ref tp, .ref ln, .ref tb, .ref ca, .ref dp])), (ca, .inl (cI, 10, .inl u.1)), (tp, .inr (0, [.ref a, .int (nI n)])), (a, .inl (cB, 9400, .inl f)), (ln, .inr (2, [.ref hd])), (hd, .inl (cN, 256, .inr (.inr (.inr (.inr u.2.2)))))] ++ (lpl cB u.2.1 ++ Q)) [(cB, .byte), (cI, .int), (cN, .object "StreamSplitter$Lane")] t) (A)) ([.ref rv, .int (nI k)]).toArray s 1 8 (A)) (F0 m 125 ls [.int (nI (opF f n k))]) by
        refine lv_if_le (tgt := 124) hx hb d_Receiver_openPacket_108 rfl (fun h108 => ?_) (fun h108 => ?_)
        · refine lv_iconst (v := 0) hx hb d_Receiver_openPacket_124 (by decide) ?_
          refine z_topi (w := (nI (opF f n k))) (by unfold opF; rw [if_pos (es_le h108 (by omega))]; rfl) ?_
          exact key108
        · refine lv_aload_n hx hb d_Receiver_openPacket_111 rfl (lv_at hl 1 rfl) ?_
          refine va_get (D := D) (ci := 4) (v := .ref tp) (C := R_Receiver) (T := F_Receiver) (N := 5) hx hb hts i_Receiver hown hK hP 0 rfl rfl 0 (by decide) (hts _ wd_175) (fun _ h9 => h9) rfl d_Receiver_openPacket_112 ?_
          refine lv_iload_n hx hb d_Receiver_openPacket_115 rfl (lv_at hl 2 rfl) ?_
          refine lv_iconst (v := 5) hx hb d_Receiver_openPacket_116 (by decide) ?_
          refine lv_iadd hx hb d_Receiver_openPacket_117 ?_
          refine z_topi (w := nI (k + 5)) (nI_add _ 5) ?_
          have hPc := hP.sub (ws' := [(tp, .inr (0, [.ref a, .int (nI n)])), (a, .inl (cB, 9400, .inl f))]) [2, 3] rfl
          have hKc := hK.sub (tys' := [(cB, .byte)]) [0] rfl
          refine z_ci (va_runV (As := [.int (nI (k + 5))]) (rest := []) ⟨hx, hb, hml, hown, hts⟩ (c_Row_at l D cB tp a n 9400 f (nI (k + 5)) (by omega)) (z_cV hN wd_212 wd_61 wd_221 hd_Row_at rfl rfl ⟨Nat.le_of_ble_eq_true rfl, Nat.le_of_ble_eq_true rfl⟩ wd_210 wd_211) (z_preV (va_recv (ci := 0) (q0 := 2) hK hP rfl rfl) hPc hKc hN) rfl rfl hl.1 rfl (lv_room (Nat.le_of_ble_eq_true rfl)) d_Receiver_openPacket_118 ⟨Nat.le_of_ble_eq_true rfl, Nat.le_of_ble_eq_true rfl⟩) (fun r118 e118 => ?_)
          refine z_topi (w := rw_at f n 9400 (nI (k + 5))) e118 ?_
          refine z_topi (w := nI (rbN f n 9400 (k + 5))) (rb_eq _ _ _ _) ?_
          refine lv_goto (tgt := 125) hx hb d_Receiver_openPacket_121 rfl ?_
          refine z_topi (w := (nI (opF f n k))) (by unfold opF; rw [if_neg (by have := es_gt h108 (by omega); omega)]) ?_
          exact key108
      refine lv_istore (lv' := [(6, .int (nI (opF f n k))), (5, .ref la), (0, .ref rv), (1, .int (nI k)), (2, .int (nI (opP f n k))), (3, .int (nI (opX f n k))), (4, .int (nI pid))]) hx hb d_Receiver_openPacket_125 hl (by decide) rfl (fun ls hl => ?_)
      have lem185 : ∀ (cl : Int64) (H : Heap) (locs : List Loc) (ls : Array Slot) (hcl : cl = opK f n k ck) (hl : lv_has ls 8 [(0, .ref rv), (1, .int (nI k)), (2, .int (nI (opP f n k))), (3, .int (nI (opX f n k))), (4, .int (nI pid)), (5, .ref la), (6, .int (nI (opF f n k)))]) (hP : va_P D classes ([(rv, .inr (4, [.ref tp, .ref ln, .ref tb, .ref ca, .ref dp])), (ca, .inl (cI, 10, .inl (cup cn 1))), (tp, .inr (0, [.ref a, .int (nI n)])), (a, .inl (cB, 9400, .inl f)), (ln, .inr (2, [.ref hd])), (hd, .inl (cN, 256, .inr (.inr (.inr (.inr hf1)))))] ++ (lzc cB (la, pid, nx, ct, tw, cl, wr, se, pi) ++ (lpl cB (T1 ++ T2) ++ Q))) H) (hD : va_D A ([(rv, .inr (4, [.ref tp, .ref ln, .ref tb, .ref ca, .ref dp])), (ca, .inl (cI, 10, .inl (cup cn 1))), (tp, .inr (0, [.ref a, .int (nI n)])), (a, .inl (cB, 9400, .inl f)), (ln, .inr (2, [.ref hd])), (hd, .inl (cN, 256, .inr (.inr (.inr (.inr hf1)))))] ++ (lzc cB (la, pid, nx, ct, tw, cl, wr, se, pi) ++ (lpl cB (T1 ++ T2) ++ Q)))) (hS : va_S A s.heap H locs), W p l e ({ frames := 3, cells := 1, slots := 8, locals := 64 }) s m ([.ref rv, .int (nI k)]).toArray below meth cd H locs (0 + 1) (0 + 8) (MQ below (va_Qq (fun r (u : OU9) => (opBad f n k ∧ r = none ∧ u = (cup (cup cn 1) 2, Ls, hf)) ∨ (¬ opBad f n k ∧ ∃ T1 T2 z hf1, LM Ls T1 T2 z hf hf1 (opI f n k) ∧ (r, u) = opR f n k (cup cn 1) z T1 T2 hf1)) (fun (u : OU9) t => zW D (A) ([(rv, .inr (4, [.ref tp, .ref ln, .ref tb, .ref ca, .ref dp])), (ca, .inl (cI, 10, .inl u.1)), (tp, .inr (0, [.ref a, .int (nI n)])), (a, .inl (cB, 9400, .inl f)), (ln, .inr (2, [.ref hd])), (hd, .inl (cN, 256, .inr (.inr (.inr (.inr u.2.2)))))] ++ (lpl cB u.2.1 ++ Q)) [(cB, .byte), (cI, .int), (cN, .object "StreamSplitter$Lane")] t) (A)) ([.ref rv, .int (nI k)]).toArray s 1 8 (A)) (F0 m 185 ls []) := by
        intro cl H locs ls hcl hl hP hD hS
        refine lv_iload hx hb d_Receiver_openPacket_185 (lv_at hl 4 rfl) ?_
        refine lv_sipush (v := 8191) hx hb d_Receiver_openPacket_187 (by decide) ?_
        refine lv_icmp_eq (tgt := 198) hx hb d_Receiver_openPacket_190 rfl (fun h190 => ?_) (fun h190 => ?_)
        · have h190 : pid = 8191 := (nI_eq (b := 8191) (by omega) (by omega)).mp h190
          refine lv_null hx hb d_Receiver_openPacket_198 ?_
          have hP := z_Pp (lp_foc2 (X := [(rv, .inr (4, [.ref tp, .ref ln, .ref tb, .ref ca, .ref dp])), (ca, .inl (cI, 10, .inl (cup cn 1))), (tp, .inr (0, [.ref a, .int (nI n)])), (a, .inl (cB, 9400, .inl f)), (ln, .inr (2, [.ref hd])), (hd, .inl (cN, 256, .inr (.inr (.inr (.inr hf1)))))]) (T1 := T1) (T2 := T2) (z := (la, pid, nx, ct, tw, cl, wr, se, pi))).symm hP
          have hD := z_Dp (lp_foc2 (X := [(rv, .inr (4, [.ref tp, .ref ln, .ref tb, .ref ca, .ref dp])), (ca, .inl (cI, 10, .inl (cup cn 1))), (tp, .inr (0, [.ref a, .int (nI n)])), (a, .inl (cB, 9400, .inl f)), (ln, .inr (2, [.ref hd])), (hd, .inl (cN, 256, .inr (.inr (.inr (.inr hf1)))))]) (T1 := T1) (T2 := T2) (z := (la, pid, nx, ct, tw, cl, wr, se, pi))).symm hD
          have hP : va_P D classes ([(rv, .inr (4, [.ref tp, .ref ln, .ref tb, .ref ca, .ref dp])), (ca, .inl (cI, 10, .inl (cup cn 1))), (tp, .inr (0, [.ref a, .int (nI n)])), (a, .inl (cB, 9400, .inl f)), (ln, .inr (2, [.ref hd])), (hd, .inl (cN, 256, .inr (.inr (.inr (.inr hf1)))))] ++ (lpl cB (T1 ++ (la, pid, nx, ct, tw, cl, wr, se, pi) :: T2) ++ Q)) H := hP
          have hD : va_D A ([(rv, .inr (4, [.ref tp, .ref ln, .ref tb, .ref ca, .ref dp])), (ca, .inl (cI, 10, .inl (cup cn 1))), (tp, .inr (0, [.ref a, .int (nI n)])), (a, .inl (cB, 9400, .inl f)), (ln, .inr (2, [.ref hd])), (hd, .inl (cN, 256, .inr (.inr (.inr (.inr hf1)))))] ++ (lpl cB (T1 ++ (la, pid, nx, ct, tw, cl, wr, se, pi) :: T2) ++ Q)) := hD
          have hP9 := hP.part (cx := [(rv, .inr (4, [.ref tp, .ref ln, .ref tb, .ref ca, .ref dp])), (ca, .inl (cI, 10, .inl (cup cn 1))), (tp, .inr (0, [.ref a, .int (nI n)])), (a, .inl (cB, 9400, .inl f)), (ln, .inr (2, [.ref hd])), (hd, .inl (cN, 256, .inr (.inr (.inr (.inr hf1)))))]) [0, 1, 2, 3, 4, 5] rfl
          have hD9 := hD.part (cx := [(rv, .inr (4, [.ref tp, .ref ln, .ref tb, .ref ca, .ref dp])), (ca, .inl (cI, 10, .inl (cup cn 1))), (tp, .inr (0, [.ref a, .int (nI n)])), (a, .inl (cB, 9400, .inl f)), (ln, .inr (2, [.ref hd])), (hd, .inl (cN, 256, .inr (.inr (.inr (.inr hf1)))))]) [0, 1, 2, 3, 4, 5] (by decide) rfl
          have hK9 := hK.sub (tys' := [(cB, .byte), (cI, .int), (cN, .object "StreamSplitter$Lane")]) [0, 1, 2] rfl
          refine W.widen (k := 1) (n := 8) (by omega) (by omega) ?_
          exact W.aret (v := va_rf none) hx hb hr (Or.inl ⟨_, rfl⟩) (va_rf_or _) (fun t ht hW => ⟨⟨_, (cup cn 1, T1 ++ (la, pid, nx, ct, tw, cl, wr, se, pi) :: T2, hf1), rfl, Or.inr ⟨hgood, T1, T2, (la, pid, nx, ct, tw, ck, wr, se, pi), hf1, hLM, by unfold opR; rw [if_pos (show pid = 8191 ∨ opP f n k = 2 from by first | exact Or.inl h190 | exact Or.inr h195), ← hcl]⟩, ⟨by rw [ht]; exact hP9, va_K.moved hW.alike hK9, hD9⟩⟩, hS.F ht⟩) hS.2.2 d_Receiver_openPacket_199
        · have h190 : ¬ pid = 8191 := mt (nI_eq (b := 8191) (by omega) (by omega)).mpr h190
          refine lv_iload_n hx hb d_Receiver_openPacket_193 rfl (lv_at hl 2 rfl) ?_
          refine lv_iconst (v := 2) hx hb d_Receiver_openPacket_194 (by decide) ?_
          refine lv_icmp_ne (tgt := 200) hx hb d_Receiver_openPacket_195 rfl (fun h195 => ?_) (fun h195 => ?_)
          · have h195 : ¬ opP f n k = 2 := mt (nI_eq (b := 2) (by omega) (by omega)).mpr (by exact h195)
            refine lv_aload_n hx hb d_Receiver_openPacket_200 rfl (lv_at hl 0 rfl) ?_
            refine lv_aload hx hb d_Receiver_openPacket_201 (lv_at hl 5 rfl) ?_
            refine lv_aload_n hx hb d_Receiver_openPacket_203 rfl (lv_at hl 0 rfl) ?_
            refine va_get (D := D) (ci := 4) (v := .ref tp) (C := R_Receiver) (T := F_Receiver) (N := 5) hx hb hts i_Receiver hown hK hP 0 rfl rfl 0 (by decide) (hts _ wd_175) (fun _ h9 => h9) rfl d_Receiver_openPacket_204 ?_
            refine lv_iload_n hx hb d_Receiver_openPacket_207 rfl (lv_at hl 1 rfl) ?_
            refine lv_iconst (v := 3) hx hb d_Receiver_openPacket_208 (by decide) ?_
            refine lv_iadd hx hb d_Receiver_openPacket_209 ?_
            refine z_topi (w := nI (k + 3)) (nI_add _ 3) ?_
            have hPc := hP.sub (ws' := [(tp, .inr (0, [.ref a, .int (nI n)])), (a, .inl (cB, 9400, .inl f))]) [2, 3] rfl
            have hKc := hK.sub (tys' := [(cB, .byte)]) [0] rfl
            refine z_ci (va_runV (As := [.int (nI (k + 3))]) (rest := [.ref la, .ref rv]) ⟨hx, hb, hml, hown, hts⟩ (c_Row_at l D cB tp a n 9400 f (nI (k + 3)) (by omega)) (z_cV hN wd_212 wd_61 wd_221 hd_Row_at rfl rfl ⟨Nat.le_of_ble_eq_true rfl, Nat.le_of_ble_eq_true rfl⟩ wd_210 wd_211) (z_preV (va_recv (ci := 0) (q0 := 2) hK hP rfl rfl) hPc hKc hN) rfl rfl hl.1 rfl (lv_room (Nat.le_of_ble_eq_true rfl)) d_Receiver_openPacket_210 ⟨Nat.le_of_ble_eq_true rfl, Nat.le_of_ble_eq_true rfl⟩) (fun r210 e210 => ?_)
            refine z_topi (w := rw_at f n 9400 (nI (k + 3))) e210 ?_
            refine z_topi (w := nI (rbN f n 9400 (k + 3))) (rb_eq _ _ _ _) ?_
            refine lv_bipush (v := 15) hx hb d_Receiver_openPacket_213 (by decide) ?_
            refine lv_iand hx hb d_Receiver_openPacket_215 ?_
            refine z_topi (w := nI (rbN f n 9400 (k + 3) % 16)) (wr_15 (by have := rb_lt f n 9400 (k + 3); omega)) ?_
            refine lv_iload hx hb d_Receiver_openPacket_216 (lv_at hl 6 rfl) ?_
            refine lv_sipush (v := 128) hx hb d_Receiver_openPacket_218 (by decide) ?_
            refine lv_iand hx hb d_Receiver_openPacket_221 ?_
            suffices key222 : W p l e ({ frames := 3, cells := 1, slots := 8, locals := 64 }) s m ([.ref rv, .int (nI k)]).toArray below meth cd H locs (0 + 1) (0 + 8) (MQ below (va_Qq (fun r (u : OU9) => (opBad f n k ∧ r = none ∧ u = (cup (cup cn 1) 2, Ls, hf)) ∨ (¬ opBad f n k ∧ ∃ T1 T2 z hf1, LM Ls T1 T2 z hf hf1 (opI f n k) ∧ (r, u) = opR f n k (cup cn 1) z T1 T2 hf1)) (fun (u : OU9) t => zW D (A) ([(rv, .inr (4, [.ref tp, .ref ln, .ref tb, .ref ca, .ref dp])), (ca, .inl (cI, 10, .inl u.1)), (tp, .inr (0, [.ref a, .int (nI n)])), (a, .inl (cB, 9400, .inl f)), (ln, .inr (2, [.ref hd])), (hd, .inl (cN, 256, .inr (.inr (.inr (.inr u.2.2)))))] ++ (lpl cB u.2.1 ++ Q)) [(cB, .byte), (cI, .int), (cN, .object "StreamSplitter$Lane")] t) (A)) ([.ref rv, .int (nI k)]).toArray s 1 8 (A)) (F0 m 230 ls [.int (if opF f n k < 128 then 0 else 1), .int (nI (rbN f n 9400 (k + 3) % 16)), .ref la, .ref rv]) by
              refine lv_if_eq (tgt := 229) hx hb d_Receiver_openPacket_222 rfl (fun h222 => ?_) (fun h222 => ?_)
              · refine lv_iconst (v := 0) hx hb d_Receiver_openPacket_229 (by decide) ?_
                refine z_topi (w := (if opF f n k < 128 then 0 else 1)) ((if_pos ((op_128 _ hF9).mp h222)).symm) ?_
                exact key222
              · refine lv_iconst (v := 1) hx hb d_Receiver_openPacket_225 (by decide) ?_
                refine lv_goto (tgt := 230) hx hb d_Receiver_openPacket_226 rfl ?_
                refine z_topi (w := (if opF f n k < 128 then 0 else 1)) ((if_neg (mt (op_128 _ hF9).mpr h222)).symm) ?_
                exact key222
            have hPc := hP.part (cx := [(rv, .inr (4, [.ref tp, .ref ln, .ref tb, .ref ca, .ref dp])), (ca, .inl (cI, 10, .inl (cup cn 1)))]) [0, 1] rfl
            have hKc := hK.sub (tys' := [(cB, .byte), (cI, .int)]) [0, 1] rfl
            have hDc := hD.part (cx := [(rv, .inr (4, [.ref tp, .ref ln, .ref tb, .ref ca, .ref dp])), (ca, .inl (cI, 10, .inl (cup cn 1)))]) [0, 1] (by decide) rfl
            have hFc := va_freeP (cx := [(rv, .inr (4, [.ref tp, .ref ln, .ref tb, .ref ca, .ref dp])), (ca, .inl (cI, 10, .inl (cup cn 1)))]) hD hS hA [0, 1] rfl
            refine va_calli (va_runV (As := [.ref la, .int (nI (rbN f n 9400 (k + 3) % 16)), .int (if opF f n k < 128 then 0 else 1)]) (rest := []) ⟨hx, hb, hml, hown, hts⟩ (c_Receiver_follow l D H.size cB cI rv tp ln tb ca dp (cup cn 1) la pid nx ct tw cl wr se pi (lpl cB (T1 ++ T2) ++ Q) (nI (rbN f n 9400 (k + 3) % 16)) (if opF f n k < 128 then 0 else 1) hse) (z_cV hN wd_285 wd_60 wd_282 hd_Receiver_follow rfl rfl ⟨Nat.le_of_ble_eq_true rfl, Nat.le_of_ble_eq_true rfl⟩ wd_284 wd_1) (z_preVm (va_recv (ci := 4) (q0 := 0) hK hP rfl rfl) hPc hKc hN hDc) rfl rfl hl.1 rfl (lv_room (Nat.le_of_ble_eq_true rfl)) d_Receiver_openPacket_230 ⟨Nat.le_of_ble_eq_true rfl, Nat.le_of_ble_eq_true rfl⟩) hS (fun q _ h => hFc q h) hFc (fun r9 o9 t H locs ht hvm e230 hB hz1 hk1 hS => ?_)
            obtain ⟨hP1, hK1, hD1⟩ := hB
            rw [ht] at hP1
            obtain ⟨hP, hD⟩ := va_joinP (wr := [(tp, .inr (0, [.ref a, .int (nI n)])), (a, .inl (cB, 9400, .inl f)), (ln, .inr (2, [.ref hd])), (hd, .inl (cN, 256, .inr (.inr (.inr (.inr hf1)))))]) (rx := [(rv, .inr (4, [.ref tp, .ref ln, .ref tb, .ref ca, .ref dp])), (ca, .inl (cI, 10, .inl o9.2.2.2.1))]) hP hD [0, 1] [2, 3, 4, 5] rfl rfl (by decide) (by decide) hk1 hFc hP1 hD1
            clear hk1 hP1 hD1 hFc hPc hDc hz1
            have hP : va_P D classes ([(tp, .inr (0, [.ref a, .int (nI n)])), (a, .inl (cB, 9400, .inl f)), (ln, .inr (2, [.ref hd])), (hd, .inl (cN, 256, .inr (.inr (.inr (.inr hf1))))), (rv, .inr (4, [.ref tp, .ref ln, .ref tb, .ref ca, .ref dp])), (ca, .inl (cI, 10, .inl o9.2.2.2.1))] ++ (lzc cB (la, pid, nx, o9.2.1, o9.2.2.1, cl, wr, o9.2.2.2.2.1, o9.2.2.2.2.2) ++ (lpl cB (T1 ++ T2) ++ Q))) H := hP
            have hD : va_D A ([(tp, .inr (0, [.ref a, .int (nI n)])), (a, .inl (cB, 9400, .inl f)), (ln, .inr (2, [.ref hd])), (hd, .inl (cN, 256, .inr (.inr (.inr (.inr hf1))))), (rv, .inr (4, [.ref tp, .ref ln, .ref tb, .ref ca, .ref dp])), (ca, .inl (cI, 10, .inl o9.2.2.2.1))] ++ (lzc cB (la, pid, nx, o9.2.1, o9.2.2.1, cl, wr, o9.2.2.2.2.1, o9.2.2.2.2.2) ++ (lpl cB (T1 ++ T2) ++ Q))) := hD
            obtain ⟨ho9, hr9⟩ := e230
            have hse9 := fo_se (cn := cup cn 1) (ct := ct) (tw := tw) (c := nI (rbN f n 9400 (k + 3) % 16)) (lt := if opF f n k < 128 then 0 else 1) (pi := pi) hse
            rw [← ho9] at hse9
            refine lv_istore (lv' := [(7, .int r9), (0, .ref rv), (1, .int (nI k)), (2, .int (nI (opP f n k))), (3, .int (nI (opX f n k))), (4, .int (nI pid)), (5, .ref la), (6, .int (nI (opF f n k)))]) hx hb d_Receiver_openPacket_233 hl (by decide) rfl (fun ls hl => ?_)
            refine lv_iload hx hb d_Receiver_openPacket_235 (lv_at hl 0 rfl) ?_
            refine lv_if_eq (tgt := 265) hx hb d_Receiver_openPacket_237 rfl (fun h237 => ?_) (fun h237 => ?_)
            · have h237 : o9.1 = 0 := by rw [← hr9]; exact h237
              refine lv_iload hx hb d_Receiver_openPacket_265 (lv_at hl 0 rfl) ?_
              refine lv_if_eq (tgt := 275) hx hb d_Receiver_openPacket_267 rfl (fun h267 => ?_) (fun h9 => absurd (by rw [hr9]; exact h237) h9)
              refine lv_null hx hb d_Receiver_openPacket_275 ?_
              have hP := z_Pp (lp_foc2 (X := [(tp, .inr (0, [.ref a, .int (nI n)])), (a, .inl (cB, 9400, .inl f)), (ln, .inr (2, [.ref hd])), (hd, .inl (cN, 256, .inr (.inr (.inr (.inr hf1))))), (rv, .inr (4, [.ref tp, .ref ln, .ref tb, .ref ca, .ref dp])), (ca, .inl (cI, 10, .inl o9.2.2.2.1))]) (T1 := T1) (T2 := T2) (z := (la, pid, nx, o9.2.1, o9.2.2.1, cl, wr, o9.2.2.2.2.1, o9.2.2.2.2.2))).symm hP
              have hD := z_Dp (lp_foc2 (X := [(tp, .inr (0, [.ref a, .int (nI n)])), (a, .inl (cB, 9400, .inl f)), (ln, .inr (2, [.ref hd])), (hd, .inl (cN, 256, .inr (.inr (.inr (.inr hf1))))), (rv, .inr (4, [.ref tp, .ref ln, .ref tb, .ref ca, .ref dp])), (ca, .inl (cI, 10, .inl o9.2.2.2.1))]) (T1 := T1) (T2 := T2) (z := (la, pid, nx, o9.2.1, o9.2.2.1, cl, wr, o9.2.2.2.2.1, o9.2.2.2.2.2))).symm hD
              have hP : va_P D classes ([(tp, .inr (0, [.ref a, .int (nI n)])), (a, .inl (cB, 9400, .inl f)), (ln, .inr (2, [.ref hd])), (hd, .inl (cN, 256, .inr (.inr (.inr (.inr hf1))))), (rv, .inr (4, [.ref tp, .ref ln, .ref tb, .ref ca, .ref dp])), (ca, .inl (cI, 10, .inl o9.2.2.2.1))] ++ (lpl cB (T1 ++ (la, pid, nx, o9.2.1, o9.2.2.1, cl, wr, o9.2.2.2.2.1, o9.2.2.2.2.2) :: T2) ++ Q)) H := hP
              have hD : va_D A ([(tp, .inr (0, [.ref a, .int (nI n)])), (a, .inl (cB, 9400, .inl f)), (ln, .inr (2, [.ref hd])), (hd, .inl (cN, 256, .inr (.inr (.inr (.inr hf1))))), (rv, .inr (4, [.ref tp, .ref ln, .ref tb, .ref ca, .ref dp])), (ca, .inl (cI, 10, .inl o9.2.2.2.1))] ++ (lpl cB (T1 ++ (la, pid, nx, o9.2.1, o9.2.2.1, cl, wr, o9.2.2.2.2.1, o9.2.2.2.2.2) :: T2) ++ Q)) := hD
              have hP9 := hP.part (cx := [(rv, .inr (4, [.ref tp, .ref ln, .ref tb, .ref ca, .ref dp])), (ca, .inl (cI, 10, .inl o9.2.2.2.1)), (tp, .inr (0, [.ref a, .int (nI n)])), (a, .inl (cB, 9400, .inl f)), (ln, .inr (2, [.ref hd])), (hd, .inl (cN, 256, .inr (.inr (.inr (.inr hf1)))))]) [4, 5, 0, 1, 2, 3] rfl
              have hD9 := hD.part (cx := [(rv, .inr (4, [.ref tp, .ref ln, .ref tb, .ref ca, .ref dp])), (ca, .inl (cI, 10, .inl o9.2.2.2.1)), (tp, .inr (0, [.ref a, .int (nI n)])), (a, .inl (cB, 9400, .inl f)), (ln, .inr (2, [.ref hd])), (hd, .inl (cN, 256, .inr (.inr (.inr (.inr hf1)))))]) [4, 5, 0, 1, 2, 3] (by decide) rfl
              have hK9 := hK.sub (tys' := [(cB, .byte), (cI, .int), (cN, .object "StreamSplitter$Lane")]) [0, 1, 2] rfl
              refine W.widen (k := 1) (n := 8) (by omega) (by omega) ?_
              exact W.aret (v := va_rf none) hx hb hr (Or.inl ⟨_, rfl⟩) (va_rf_or _) (fun t ht hW => ⟨⟨_, (o9.2.2.2.1, T1 ++ (la, pid, nx, o9.2.1, o9.2.2.1, cl, wr, o9.2.2.2.2.1, o9.2.2.2.2.2) :: T2, hf1), rfl, Or.inr ⟨hgood, T1, T2, (la, pid, nx, ct, tw, ck, wr, se, pi), hf1, hLM, by unfold opR; rw [if_neg (show ¬ (pid = 8191 ∨ opP f n k = 2) from fun z => z.elim h190 h195)]; show _ = (if (foU (cup cn 1) ct tw se pi (nI (rbN f n 9400 (k + 3) % 16)) (if opF f n k < 128 then 0 else 1)).1 = 0 then _ else _); rw [← ho9, ← hcl, if_pos h237]⟩, ⟨by rw [ht]; exact hP9, va_K.moved hW.alike hK9, hD9⟩⟩, hS.F ht⟩) hS.2.2 d_Receiver_openPacket_276
            · have h237 : ¬ o9.1 = 0 := by rw [← hr9]; exact h237
              refine lv_aload_n hx hb d_Receiver_openPacket_240 rfl (lv_at hl 1 rfl) ?_
              refine va_get (D := D) (ci := 4) (v := .ref tp) (C := R_Receiver) (T := F_Receiver) (N := 5) hx hb hts i_Receiver hown hK hP 4 rfl rfl 0 (by decide) (hts _ wd_175) (fun _ h9 => h9) rfl d_Receiver_openPacket_241 ?_
              refine lv_iload_n hx hb d_Receiver_openPacket_244 rfl (lv_at hl 2 rfl) ?_
              refine lv_iconst (v := 3) hx hb d_Receiver_openPacket_245 (by decide) ?_
              refine lv_iadd hx hb d_Receiver_openPacket_246 ?_
              refine z_topi (w := nI (k + 3)) (nI_add _ 3) ?_
              have hPc := hP.sub (ws' := [(tp, .inr (0, [.ref a, .int (nI n)])), (a, .inl (cB, 9400, .inl f))]) [0, 1] rfl
              have hKc := hK.sub (tys' := [(cB, .byte)]) [0] rfl
              refine z_ci (va_runV (As := [.int (nI (k + 3))]) (rest := []) ⟨hx, hb, hml, hown, hts⟩ (c_Row_at l D cB tp a n 9400 f (nI (k + 3)) (by omega)) (z_cV hN wd_212 wd_61 wd_221 hd_Row_at rfl rfl ⟨Nat.le_of_ble_eq_true rfl, Nat.le_of_ble_eq_true rfl⟩ wd_210 wd_211) (z_preV (va_recv (ci := 0) (q0 := 0) hK hP rfl rfl) hPc hKc hN) rfl rfl hl.1 rfl (lv_room (Nat.le_of_ble_eq_true rfl)) d_Receiver_openPacket_247 ⟨Nat.le_of_ble_eq_true rfl, Nat.le_of_ble_eq_true rfl⟩) (fun r247 e247 => ?_)
              refine z_topi (w := rw_at f n 9400 (nI (k + 3))) e247 ?_
              refine z_topi (w := nI (rbN f n 9400 (k + 3))) (rb_eq _ _ _ _) ?_
              refine lv_bipush (v := 6) hx hb d_Receiver_openPacket_250 (by decide) ?_
              refine lv_ishr hx hb d_Receiver_openPacket_252 ?_
              refine z_topi (w := nI (rbN f n 9400 (k + 3) / 64)) (op_sh6 _ (rb_lt _ _ _ _)) ?_
              refine lv_if_eq (tgt := 265) hx hb d_Receiver_openPacket_253 rfl (fun h253 => ?_) (fun h253 => ?_)
              · have h253 := (nI_eq (b := 0) (by have := rb_lt f n 9400 (k + 3); omega) (by omega)).mp h253
                refine lv_iload hx hb d_Receiver_openPacket_265 (lv_at hl 0 rfl) ?_
                refine lv_if_eq (tgt := 275) hx hb d_Receiver_openPacket_267 rfl (fun h9 => absurd (by rw [← hr9]; exact h9) h237) (fun h267 => ?_)
                refine lv_aload hx hb d_Receiver_openPacket_270 (lv_at hl 6 rfl) ?_
                refine lv_goto (tgt := 276) hx hb d_Receiver_openPacket_272 rfl ?_
                have hP := z_Pp (lp_foc2 (X := [(tp, .inr (0, [.ref a, .int (nI n)])), (a, .inl (cB, 9400, .inl f)), (ln, .inr (2, [.ref hd])), (hd, .inl (cN, 256, .inr (.inr (.inr (.inr hf1))))), (rv, .inr (4, [.ref tp, .ref ln, .ref tb, .ref ca, .ref dp])), (ca, .inl (cI, 10, .inl o9.2.2.2.1))]) (T1 := T1) (T2 := T2) (z := (la, pid, nx, o9.2.1, o9.2.2.1, cl, wr, o9.2.2.2.2.1, o9.2.2.2.2.2))).symm hP
                have hD := z_Dp (lp_foc2 (X := [(tp, .inr (0, [.ref a, .int (nI n)])), (a, .inl (cB, 9400, .inl f)), (ln, .inr (2, [.ref hd])), (hd, .inl (cN, 256, .inr (.inr (.inr (.inr hf1))))), (rv, .inr (4, [.ref tp, .ref ln, .ref tb, .ref ca, .ref dp])), (ca, .inl (cI, 10, .inl o9.2.2.2.1))]) (T1 := T1) (T2 := T2) (z := (la, pid, nx, o9.2.1, o9.2.2.1, cl, wr, o9.2.2.2.2.1, o9.2.2.2.2.2))).symm hD
                have hP : va_P D classes ([(tp, .inr (0, [.ref a, .int (nI n)])), (a, .inl (cB, 9400, .inl f)), (ln, .inr (2, [.ref hd])), (hd, .inl (cN, 256, .inr (.inr (.inr (.inr hf1))))), (rv, .inr (4, [.ref tp, .ref ln, .ref tb, .ref ca, .ref dp])), (ca, .inl (cI, 10, .inl o9.2.2.2.1))] ++ (lpl cB (T1 ++ (la, pid, nx, o9.2.1, o9.2.2.1, cl, wr, o9.2.2.2.2.1, o9.2.2.2.2.2) :: T2) ++ Q)) H := hP
                have hD : va_D A ([(tp, .inr (0, [.ref a, .int (nI n)])), (a, .inl (cB, 9400, .inl f)), (ln, .inr (2, [.ref hd])), (hd, .inl (cN, 256, .inr (.inr (.inr (.inr hf1))))), (rv, .inr (4, [.ref tp, .ref ln, .ref tb, .ref ca, .ref dp])), (ca, .inl (cI, 10, .inl o9.2.2.2.1))] ++ (lpl cB (T1 ++ (la, pid, nx, o9.2.1, o9.2.2.1, cl, wr, o9.2.2.2.2.1, o9.2.2.2.2.2) :: T2) ++ Q)) := hD
                have hP9 := hP.part (cx := [(rv, .inr (4, [.ref tp, .ref ln, .ref tb, .ref ca, .ref dp])), (ca, .inl (cI, 10, .inl o9.2.2.2.1)), (tp, .inr (0, [.ref a, .int (nI n)])), (a, .inl (cB, 9400, .inl f)), (ln, .inr (2, [.ref hd])), (hd, .inl (cN, 256, .inr (.inr (.inr (.inr hf1)))))]) [4, 5, 0, 1, 2, 3] rfl
                have hD9 := hD.part (cx := [(rv, .inr (4, [.ref tp, .ref ln, .ref tb, .ref ca, .ref dp])), (ca, .inl (cI, 10, .inl o9.2.2.2.1)), (tp, .inr (0, [.ref a, .int (nI n)])), (a, .inl (cB, 9400, .inl f)), (ln, .inr (2, [.ref hd])), (hd, .inl (cN, 256, .inr (.inr (.inr (.inr hf1)))))]) [4, 5, 0, 1, 2, 3] (by decide) rfl
                have hK9 := hK.sub (tys' := [(cB, .byte), (cI, .int), (cN, .object "StreamSplitter$Lane")]) [0, 1, 2] rfl
                refine W.widen (k := 1) (n := 8) (by omega) (by omega) ?_
                exact W.aret (v := va_rf (some la)) hx hb hr (Or.inl ⟨_, rfl⟩) (va_rf_or _) (fun t ht hW => ⟨⟨_, (o9.2.2.2.1, T1 ++ (la, pid, nx, o9.2.1, o9.2.2.1, cl, wr, o9.2.2.2.2.1, o9.2.2.2.2.2) :: T2, hf1), rfl, Or.inr ⟨hgood, T1, T2, (la, pid, nx, ct, tw, ck, wr, se, pi), hf1, hLM, by unfold opR; rw [if_neg (show ¬ (pid = 8191 ∨ opP f n k = 2) from fun z => z.elim h190 h195)]; show _ = (if (foU (cup cn 1) ct tw se pi (nI (rbN f n 9400 (k + 3) % 16)) (if opF f n k < 128 then 0 else 1)).1 = 0 then _ else _); rw [← ho9, ← hcl, if_neg h237, if_pos h253]⟩, ⟨by rw [ht]; exact hP9, va_K.moved hW.alike hK9, hD9⟩⟩, hS.F ht⟩) hS.2.2 d_Receiver_openPacket_276
              · have h253 := mt (nI_eq (b := 0) (by have := rb_lt f n 9400 (k + 3); omega) (by omega)).mpr h253
                refine lv_aload_n hx hb d_Receiver_openPacket_256 rfl (lv_at hl 1 rfl) ?_
                refine lv_aload hx hb d_Receiver_openPacket_257 (lv_at hl 6 rfl) ?_
                have hPc := hP.part (cx := [(rv, .inr (4, [.ref tp, .ref ln, .ref tb, .ref ca, .ref dp])), (ca, .inl (cI, 10, .inl o9.2.2.2.1))]) [4, 5] rfl
                have hKc := hK.sub (tys' := [(cB, .byte), (cI, .int)]) [0, 1] rfl
                have hDc := hD.part (cx := [(rv, .inr (4, [.ref tp, .ref ln, .ref tb, .ref ca, .ref dp])), (ca, .inl (cI, 10, .inl o9.2.2.2.1))]) [4, 5] (by decide) rfl
                have hFc := va_freeP (cx := [(rv, .inr (4, [.ref tp, .ref ln, .ref tb, .ref ca, .ref dp])), (ca, .inl (cI, 10, .inl o9.2.2.2.1))]) hD hS hA [4, 5] rfl
                refine va_callv (va_runV (As := [.ref la]) (rest := []) ⟨hx, hb, hml, hown, hts⟩ (c_Receiver_giveUp l D H.size cB cI rv tp ln tb ca dp o9.2.2.2.1 la pid nx o9.2.1 o9.2.2.1 cl wr o9.2.2.2.2.1 o9.2.2.2.2.2 (lpl cB (T1 ++ T2) ++ Q) hse9) (z_cV hN wd_289 wd_60 wd_286 hd_Receiver_giveUp rfl rfl ⟨Nat.le_of_ble_eq_true rfl, Nat.le_of_ble_eq_true rfl⟩ wd_288 wd_2) (z_preVm (va_recv (ci := 4) (q0 := 4) hK hP rfl rfl) hPc hKc hN hDc) rfl rfl hl.1 rfl (lv_room (Nat.le_of_ble_eq_true rfl)) d_Receiver_openPacket_259 ⟨Nat.le_of_ble_eq_true rfl, Nat.le_of_ble_eq_true rfl⟩) hS (fun q _ h => hFc q h) hFc (fun u259 t H locs ht hvm e259 hB hz1 hk1 hS => ?_)
                obtain ⟨hP1, hK1, hD1⟩ := hB
                rw [ht] at hP1
                obtain ⟨hP, hD⟩ := va_joinP (wr := [(tp, .inr (0, [.ref a, .int (nI n)])), (a, .inl (cB, 9400, .inl f)), (ln, .inr (2, [.ref hd])), (hd, .inl (cN, 256, .inr (.inr (.inr (.inr hf1)))))]) (rx := [(rv, .inr (4, [.ref tp, .ref ln, .ref tb, .ref ca, .ref dp])), (ca, .inl (cI, 10, .inl (guC o9.2.2.2.1 o9.2.2.2.2.1 o9.2.2.2.2.2)))]) hP hD [4, 5] [0, 1, 2, 3] rfl rfl (by decide) (by decide) hk1 hFc hP1 hD1
                clear hk1 hP1 hD1 hFc hPc hDc hz1
                have hP : va_P D classes ([(tp, .inr (0, [.ref a, .int (nI n)])), (a, .inl (cB, 9400, .inl f)), (ln, .inr (2, [.ref hd])), (hd, .inl (cN, 256, .inr (.inr (.inr (.inr hf1))))), (rv, .inr (4, [.ref tp, .ref ln, .ref tb, .ref ca, .ref dp])), (ca, .inl (cI, 10, .inl (guC o9.2.2.2.1 o9.2.2.2.2.1 o9.2.2.2.2.2)))] ++ (lzc cB (la, pid, nx, o9.2.1, o9.2.2.1, cl, wr, guS o9.2.2.2.2.1, guI o9.2.2.2.2.2) ++ (lpl cB (T1 ++ T2) ++ Q))) H := hP
                have hD : va_D A ([(tp, .inr (0, [.ref a, .int (nI n)])), (a, .inl (cB, 9400, .inl f)), (ln, .inr (2, [.ref hd])), (hd, .inl (cN, 256, .inr (.inr (.inr (.inr hf1))))), (rv, .inr (4, [.ref tp, .ref ln, .ref tb, .ref ca, .ref dp])), (ca, .inl (cI, 10, .inl (guC o9.2.2.2.1 o9.2.2.2.2.1 o9.2.2.2.2.2)))] ++ (lzc cB (la, pid, nx, o9.2.1, o9.2.2.1, cl, wr, guS o9.2.2.2.2.1, guI o9.2.2.2.2.2) ++ (lpl cB (T1 ++ T2) ++ Q))) := hD
                refine lv_iconst (v := 0) hx hb d_Receiver_openPacket_262 (by decide) ?_
                refine lv_istore (lv' := [(7, .int 0), (0, .ref rv), (1, .int (nI k)), (2, .int (nI (opP f n k))), (3, .int (nI (opX f n k))), (4, .int (nI pid)), (5, .ref la), (6, .int (nI (opF f n k)))]) hx hb d_Receiver_openPacket_263 hl (by decide) rfl (fun ls hl => ?_)
                refine lv_iload hx hb d_Receiver_openPacket_265 (lv_at hl 0 rfl) ?_
                refine lv_if_eq (tgt := 275) hx hb d_Receiver_openPacket_267 rfl (fun h267 => ?_) (fun h9 => absurd rfl h9)
                refine lv_null hx hb d_Receiver_openPacket_275 ?_
                have hP := z_Pp (lp_foc2 (X := [(tp, .inr (0, [.ref a, .int (nI n)])), (a, .inl (cB, 9400, .inl f)), (ln, .inr (2, [.ref hd])), (hd, .inl (cN, 256, .inr (.inr (.inr (.inr hf1))))), (rv, .inr (4, [.ref tp, .ref ln, .ref tb, .ref ca, .ref dp])), (ca, .inl (cI, 10, .inl (guC o9.2.2.2.1 o9.2.2.2.2.1 o9.2.2.2.2.2)))]) (T1 := T1) (T2 := T2) (z := (la, pid, nx, o9.2.1, o9.2.2.1, cl, wr, guS o9.2.2.2.2.1, guI o9.2.2.2.2.2))).symm hP
                have hD := z_Dp (lp_foc2 (X := [(tp, .inr (0, [.ref a, .int (nI n)])), (a, .inl (cB, 9400, .inl f)), (ln, .inr (2, [.ref hd])), (hd, .inl (cN, 256, .inr (.inr (.inr (.inr hf1))))), (rv, .inr (4, [.ref tp, .ref ln, .ref tb, .ref ca, .ref dp])), (ca, .inl (cI, 10, .inl (guC o9.2.2.2.1 o9.2.2.2.2.1 o9.2.2.2.2.2)))]) (T1 := T1) (T2 := T2) (z := (la, pid, nx, o9.2.1, o9.2.2.1, cl, wr, guS o9.2.2.2.2.1, guI o9.2.2.2.2.2))).symm hD
                have hP : va_P D classes ([(tp, .inr (0, [.ref a, .int (nI n)])), (a, .inl (cB, 9400, .inl f)), (ln, .inr (2, [.ref hd])), (hd, .inl (cN, 256, .inr (.inr (.inr (.inr hf1))))), (rv, .inr (4, [.ref tp, .ref ln, .ref tb, .ref ca, .ref dp])), (ca, .inl (cI, 10, .inl (guC o9.2.2.2.1 o9.2.2.2.2.1 o9.2.2.2.2.2)))] ++ (lpl cB (T1 ++ (la, pid, nx, o9.2.1, o9.2.2.1, cl, wr, guS o9.2.2.2.2.1, guI o9.2.2.2.2.2) :: T2) ++ Q)) H := hP
                have hD : va_D A ([(tp, .inr (0, [.ref a, .int (nI n)])), (a, .inl (cB, 9400, .inl f)), (ln, .inr (2, [.ref hd])), (hd, .inl (cN, 256, .inr (.inr (.inr (.inr hf1))))), (rv, .inr (4, [.ref tp, .ref ln, .ref tb, .ref ca, .ref dp])), (ca, .inl (cI, 10, .inl (guC o9.2.2.2.1 o9.2.2.2.2.1 o9.2.2.2.2.2)))] ++ (lpl cB (T1 ++ (la, pid, nx, o9.2.1, o9.2.2.1, cl, wr, guS o9.2.2.2.2.1, guI o9.2.2.2.2.2) :: T2) ++ Q)) := hD
                have hP9 := hP.part (cx := [(rv, .inr (4, [.ref tp, .ref ln, .ref tb, .ref ca, .ref dp])), (ca, .inl (cI, 10, .inl (guC o9.2.2.2.1 o9.2.2.2.2.1 o9.2.2.2.2.2))), (tp, .inr (0, [.ref a, .int (nI n)])), (a, .inl (cB, 9400, .inl f)), (ln, .inr (2, [.ref hd])), (hd, .inl (cN, 256, .inr (.inr (.inr (.inr hf1)))))]) [4, 5, 0, 1, 2, 3] rfl
                have hD9 := hD.part (cx := [(rv, .inr (4, [.ref tp, .ref ln, .ref tb, .ref ca, .ref dp])), (ca, .inl (cI, 10, .inl (guC o9.2.2.2.1 o9.2.2.2.2.1 o9.2.2.2.2.2))), (tp, .inr (0, [.ref a, .int (nI n)])), (a, .inl (cB, 9400, .inl f)), (ln, .inr (2, [.ref hd])), (hd, .inl (cN, 256, .inr (.inr (.inr (.inr hf1)))))]) [4, 5, 0, 1, 2, 3] (by decide) rfl
                have hK9 := hK.sub (tys' := [(cB, .byte), (cI, .int), (cN, .object "StreamSplitter$Lane")]) [0, 1, 2] rfl
                refine W.widen (k := 1) (n := 8) (by omega) (by omega) ?_
                exact W.aret (v := va_rf none) hx hb hr (Or.inl ⟨_, rfl⟩) (va_rf_or _) (fun t ht hW => ⟨⟨_, (guC o9.2.2.2.1 o9.2.2.2.2.1 o9.2.2.2.2.2, T1 ++ (la, pid, nx, o9.2.1, o9.2.2.1, cl, wr, guS o9.2.2.2.2.1, guI o9.2.2.2.2.2) :: T2, hf1), rfl, Or.inr ⟨hgood, T1, T2, (la, pid, nx, ct, tw, ck, wr, se, pi), hf1, hLM, by unfold opR; rw [if_neg (show ¬ (pid = 8191 ∨ opP f n k = 2) from fun z => z.elim h190 h195)]; show _ = (if (foU (cup cn 1) ct tw se pi (nI (rbN f n 9400 (k + 3) % 16)) (if opF f n k < 128 then 0 else 1)).1 = 0 then _ else _); rw [← ho9, ← hcl, if_neg h237, if_neg h253]⟩, ⟨by rw [ht]; exact hP9, va_K.moved hW.alike hK9, hD9⟩⟩, hS.F ht⟩) hS.2.2 d_Receiver_openPacket_276
          · have h195 : opP f n k = 2 := (nI_eq (b := 2) (by omega) (by omega)).mp (by first | exact h195 | exact Classical.not_not.mp h195)
            refine lv_null hx hb d_Receiver_openPacket_198 ?_
            have hP := z_Pp (lp_foc2 (X := [(rv, .inr (4, [.ref tp, .ref ln, .ref tb, .ref ca, .ref dp])), (ca, .inl (cI, 10, .inl (cup cn 1))), (tp, .inr (0, [.ref a, .int (nI n)])), (a, .inl (cB, 9400, .inl f)), (ln, .inr (2, [.ref hd])), (hd, .inl (cN, 256, .inr (.inr (.inr (.inr hf1)))))]) (T1 := T1) (T2 := T2) (z := (la, pid, nx, ct, tw, cl, wr, se, pi))).symm hP
            have hD := z_Dp (lp_foc2 (X := [(rv, .inr (4, [.ref tp, .ref ln, .ref tb, .ref ca, .ref dp])), (ca, .inl (cI, 10, .inl (cup cn 1))), (tp, .inr (0, [.ref a, .int (nI n)])), (a, .inl (cB, 9400, .inl f)), (ln, .inr (2, [.ref hd])), (hd, .inl (cN, 256, .inr (.inr (.inr (.inr hf1)))))]) (T1 := T1) (T2 := T2) (z := (la, pid, nx, ct, tw, cl, wr, se, pi))).symm hD
            have hP : va_P D classes ([(rv, .inr (4, [.ref tp, .ref ln, .ref tb, .ref ca, .ref dp])), (ca, .inl (cI, 10, .inl (cup cn 1))), (tp, .inr (0, [.ref a, .int (nI n)])), (a, .inl (cB, 9400, .inl f)), (ln, .inr (2, [.ref hd])), (hd, .inl (cN, 256, .inr (.inr (.inr (.inr hf1)))))] ++ (lpl cB (T1 ++ (la, pid, nx, ct, tw, cl, wr, se, pi) :: T2) ++ Q)) H := hP
            have hD : va_D A ([(rv, .inr (4, [.ref tp, .ref ln, .ref tb, .ref ca, .ref dp])), (ca, .inl (cI, 10, .inl (cup cn 1))), (tp, .inr (0, [.ref a, .int (nI n)])), (a, .inl (cB, 9400, .inl f)), (ln, .inr (2, [.ref hd])), (hd, .inl (cN, 256, .inr (.inr (.inr (.inr hf1)))))] ++ (lpl cB (T1 ++ (la, pid, nx, ct, tw, cl, wr, se, pi) :: T2) ++ Q)) := hD
            have hP9 := hP.part (cx := [(rv, .inr (4, [.ref tp, .ref ln, .ref tb, .ref ca, .ref dp])), (ca, .inl (cI, 10, .inl (cup cn 1))), (tp, .inr (0, [.ref a, .int (nI n)])), (a, .inl (cB, 9400, .inl f)), (ln, .inr (2, [.ref hd])), (hd, .inl (cN, 256, .inr (.inr (.inr (.inr hf1)))))]) [0, 1, 2, 3, 4, 5] rfl
            have hD9 := hD.part (cx := [(rv, .inr (4, [.ref tp, .ref ln, .ref tb, .ref ca, .ref dp])), (ca, .inl (cI, 10, .inl (cup cn 1))), (tp, .inr (0, [.ref a, .int (nI n)])), (a, .inl (cB, 9400, .inl f)), (ln, .inr (2, [.ref hd])), (hd, .inl (cN, 256, .inr (.inr (.inr (.inr hf1)))))]) [0, 1, 2, 3, 4, 5] (by decide) rfl
            have hK9 := hK.sub (tys' := [(cB, .byte), (cI, .int), (cN, .object "StreamSplitter$Lane")]) [0, 1, 2] rfl
            refine W.widen (k := 1) (n := 8) (by omega) (by omega) ?_
            exact W.aret (v := va_rf none) hx hb hr (Or.inl ⟨_, rfl⟩) (va_rf_or _) (fun t ht hW => ⟨⟨_, (cup cn 1, T1 ++ (la, pid, nx, ct, tw, cl, wr, se, pi) :: T2, hf1), rfl, Or.inr ⟨hgood, T1, T2, (la, pid, nx, ct, tw, ck, wr, se, pi), hf1, hLM, by unfold opR; rw [if_pos (show pid = 8191 ∨ opP f n k = 2 from by first | exact Or.inl h190 | exact Or.inr h195), ← hcl]⟩, ⟨by rw [ht]; exact hP9, va_K.moved hW.alike hK9, hD9⟩⟩, hS.F ht⟩) hS.2.2 d_Receiver_openPacket_199
      refine lv_iload hx hb d_Receiver_openPacket_127 (lv_at hl 0 rfl) ?_
      refine lv_bipush (v := 16) hx hb d_Receiver_openPacket_129 (by decide) ?_
      refine lv_iand hx hb d_Receiver_openPacket_131 ?_
      refine lv_if_eq (tgt := 185) hx hb d_Receiver_openPacket_132 rfl (fun h132 => ?_) (fun h132 => ?_)
      · have h132 := (op_16 _ hF9).mp h132
        exact lem185 ck H locs ls (by unfold opK; first | rw [if_pos (Or.inl h132)] | rw [if_pos (Or.inr h138)]) (lv_sub hl [2, 3, 4, 5, 6, 1, 0] rfl) hP hD hS
      · have h132 := mt (op_16 _ hF9).mpr h132
        refine lv_iload_n hx hb d_Receiver_openPacket_135 rfl (lv_at hl 5 rfl) ?_
        refine lv_bipush (v := 7) hx hb d_Receiver_openPacket_136 (by decide) ?_
        refine lv_icmp_lt (tgt := 185) hx hb d_Receiver_openPacket_138 rfl (fun h138 => ?_) (fun h138 => ?_)
        · have h138 := (nI_ltI (b := 7) (by omega) (by omega)).mp h138
          exact lem185 ck H locs ls (by unfold opK; first | rw [if_pos (Or.inl h132)] | rw [if_pos (Or.inr h138)]) (lv_sub hl [2, 3, 4, 5, 6, 1, 0] rfl) hP hD hS
        · have h138 := mt (nI_ltI (b := 7) (by omega) (by omega)).mpr h138
          refine lv_bipush (v := 8) hx hb d_Receiver_openPacket_141 (by decide) ?_
          refine lv_iload_n hx hb d_Receiver_openPacket_143 rfl (lv_at hl 3 rfl) ?_
          refine lv_bipush (v := 6) hx hb d_Receiver_openPacket_144 (by decide) ?_
          refine lv_iadd hx hb d_Receiver_openPacket_146 ?_
          refine z_topi (w := nI (k + 6)) (nI_add _ 6) ?_
          refine lv_imul hx hb d_Receiver_openPacket_147 ?_
          refine z_topi (w := nI (8 * (k + 6))) (pk_mul 8 _) ?_
          refine lv_istore (lv' := [(7, .int (nI (8 * (k + 6)))), (6, .int (nI (opF f n k))), (5, .ref la), (0, .ref rv), (1, .int (nI k)), (2, .int (nI (opP f n k))), (3, .int (nI (opX f n k))), (4, .int (nI pid))]) hx hb d_Receiver_openPacket_148 hl (by decide) rfl (fun ls hl => ?_)
          have hP : va_P D classes ([(rv, .inr (4, [.ref tp, .ref ln, .ref tb, .ref ca, .ref dp])), (ca, .inl (cI, 10, .inl (cup cn 1))), (tp, .inr (0, [.ref a, .int (nI n)])), (a, .inl (cB, 9400, .inl f)), (ln, .inr (2, [.ref hd])), (hd, .inl (cN, 256, .inr (.inr (.inr (.inr hf1))))), (la, .inr (1, [.int (nI pid), va_rf nx, .int ct, .int tw, .long ck, .int wr, va_rf ((se).map (fun q => q.1)), va_rf ((pi).map (fun q => q.1))]))] ++ ((lzS cB se ++ lzI pi) ++ (lpl cB (T1 ++ T2) ++ Q))) H := hP
          have hD : va_D A ([(rv, .inr (4, [.ref tp, .ref ln, .ref tb, .ref ca, .ref dp])), (ca, .inl (cI, 10, .inl (cup cn 1))), (tp, .inr (0, [.ref a, .int (nI n)])), (a, .inl (cB, 9400, .inl f)), (ln, .inr (2, [.ref hd])), (hd, .inl (cN, 256, .inr (.inr (.inr (.inr hf1))))), (la, .inr (1, [.int (nI pid), va_rf nx, .int ct, .int tw, .long ck, .int wr, va_rf ((se).map (fun q => q.1)), va_rf ((pi).map (fun q => q.1))]))] ++ ((lzS cB se ++ lzI pi) ++ (lpl cB (T1 ++ T2) ++ Q))) := hD
          refine lv_aload hx hb d_Receiver_openPacket_150 (lv_at hl 2 rfl) ?_
          refine lv_ldc2 hx hb hown (hts _ wd_276) d_Receiver_openPacket_152 ?_
          refine lv_aload_n hx hb d_Receiver_openPacket_155 rfl (lv_at hl 3 rfl) ?_
          refine va_get (D := D) (ci := 4) (v := .ref tp) (C := R_Receiver) (T := F_Receiver) (N := 5) hx hb hts i_Receiver hown hK hP 0 rfl rfl 0 (by decide) (hts _ wd_175) (fun _ h9 => h9) rfl d_Receiver_openPacket_156 ?_
          refine lv_iload hx hb d_Receiver_openPacket_159 (lv_at hl 0 rfl) ?_
          refine lv_bipush (v := 33) hx hb d_Receiver_openPacket_161 (by decide) ?_
          have hPc := hP.sub (ws' := [(tp, .inr (0, [.ref a, .int (nI n)])), (a, .inl (cB, 9400, .inl f))]) [2, 3] rfl
          have hKc := hK.sub (tys' := [(cB, .byte)]) [0] rfl
          refine z_cl (va_runV (As := [.int (nI (8 * (k + 6))), .int (nI 33)]) (rest := [.long 300, .ref la]) ⟨hx, hb, hml, hown, hts⟩ (c_Row_bits l D cB tp a n 9400 f (8 * (k + 6)) 33 (by omega) (by omega)) (z_cV hN wd_280 wd_61 wd_277 hd_Row_bits rfl rfl ⟨Nat.le_of_ble_eq_true rfl, Nat.le_of_ble_eq_true rfl⟩ wd_278 wd_279) (z_preV (va_recv (ci := 0) (q0 := 2) hK hP rfl rfl) hPc hKc hN) rfl rfl hl.1 rfl (lv_room (Nat.le_of_ble_eq_true rfl)) d_Receiver_openPacket_163 ⟨Nat.le_of_ble_eq_true rfl, Nat.le_of_ble_eq_true rfl⟩) (fun r163 e163 => ?_)
          subst e163
          refine lv_lmul hx hb d_Receiver_openPacket_166 ?_
          refine lv_aload_n hx hb d_Receiver_openPacket_167 rfl (lv_at hl 3 rfl) ?_
          refine va_get (D := D) (ci := 4) (v := .ref tp) (C := R_Receiver) (T := F_Receiver) (N := 5) hx hb hts i_Receiver hown hK hP 0 rfl rfl 0 (by decide) (hts _ wd_175) (fun _ h9 => h9) rfl d_Receiver_openPacket_168 ?_
          refine lv_iload hx hb d_Receiver_openPacket_171 (lv_at hl 0 rfl) ?_
          refine lv_bipush (v := 39) hx hb d_Receiver_openPacket_173 (by decide) ?_
          refine lv_iadd hx hb d_Receiver_openPacket_175 ?_
          refine z_topi (w := nI (8 * (k + 6) + 39)) (nI_add _ 39) ?_
          refine lv_bipush (v := 9) hx hb d_Receiver_openPacket_176 (by decide) ?_
          have hPc := hP.sub (ws' := [(tp, .inr (0, [.ref a, .int (nI n)])), (a, .inl (cB, 9400, .inl f))]) [2, 3] rfl
          have hKc := hK.sub (tys' := [(cB, .byte)]) [0] rfl
          refine z_cl (va_runV (As := [.int (nI (8 * (k + 6) + 39)), .int (nI 9)]) (rest := [.long (300 * (rw_bits f n 9400 (8 * (k + 6)) 33)), .ref la]) ⟨hx, hb, hml, hown, hts⟩ (c_Row_bits l D cB tp a n 9400 f (8 * (k + 6) + 39) 9 (by omega) (by omega)) (z_cV hN wd_280 wd_61 wd_277 hd_Row_bits rfl rfl ⟨Nat.le_of_ble_eq_true rfl, Nat.le_of_ble_eq_true rfl⟩ wd_278 wd_279) (z_preV (va_recv (ci := 0) (q0 := 2) hK hP rfl rfl) hPc hKc hN) rfl rfl hl.1 rfl (lv_room (Nat.le_of_ble_eq_true rfl)) d_Receiver_openPacket_178 ⟨Nat.le_of_ble_eq_true rfl, Nat.le_of_ble_eq_true rfl⟩) (fun r178 e178 => ?_)
          subst e178
          refine lv_ladd hx hb d_Receiver_openPacket_181 ?_
          refine va_putN (D := D) (ci := 1) (v := .long ((300 * (rw_bits f n 9400 (8 * (k + 6)) 33)) + (rw_bits f n 9400 (8 * (k + 6) + 39) 9))) (ty := .long) (C := R_Lane) (T := F_Lane) (N := 8) hx hb hts i_Lane t_Lane t_Lane_ok n_Lane hown hK hP hD hS 6 rfl rfl 4 (by decide) (hts _ wd_252) (fun _ h9 => h9) rfl (by decide +kernel) rfl rfl (Nat.le_of_ble_eq_true rfl) d_Receiver_openPacket_182 (fun H locs hP hD hS => ?_)
          have hP : va_P D classes ([(rv, .inr (4, [.ref tp, .ref ln, .ref tb, .ref ca, .ref dp])), (ca, .inl (cI, 10, .inl (cup cn 1))), (tp, .inr (0, [.ref a, .int (nI n)])), (a, .inl (cB, 9400, .inl f)), (ln, .inr (2, [.ref hd])), (hd, .inl (cN, 256, .inr (.inr (.inr (.inr hf1))))), (la, .inr (1, [.int (nI pid), va_rf nx, .int ct, .int tw, .long ((300 * (rw_bits f n 9400 (8 * (k + 6)) 33)) + (rw_bits f n 9400 (8 * (k + 6) + 39) 9)), .int wr, va_rf ((se).map (fun q => q.1)), va_rf ((pi).map (fun q => q.1))]))] ++ ((lzS cB se ++ lzI pi) ++ (lpl cB (T1 ++ T2) ++ Q))) H := hP
          have hD : va_D A ([(rv, .inr (4, [.ref tp, .ref ln, .ref tb, .ref ca, .ref dp])), (ca, .inl (cI, 10, .inl (cup cn 1))), (tp, .inr (0, [.ref a, .int (nI n)])), (a, .inl (cB, 9400, .inl f)), (ln, .inr (2, [.ref hd])), (hd, .inl (cN, 256, .inr (.inr (.inr (.inr hf1))))), (la, .inr (1, [.int (nI pid), va_rf nx, .int ct, .int tw, .long ((300 * (rw_bits f n 9400 (8 * (k + 6)) 33)) + (rw_bits f n 9400 (8 * (k + 6) + 39) 9)), .int wr, va_rf ((se).map (fun q => q.1)), va_rf ((pi).map (fun q => q.1))]))] ++ ((lzS cB se ++ lzI pi) ++ (lpl cB (T1 ++ T2) ++ Q))) := hD
          have hP : va_P D classes ([(rv, .inr (4, [.ref tp, .ref ln, .ref tb, .ref ca, .ref dp])), (ca, .inl (cI, 10, .inl (cup cn 1))), (tp, .inr (0, [.ref a, .int (nI n)])), (a, .inl (cB, 9400, .inl f)), (ln, .inr (2, [.ref hd])), (hd, .inl (cN, 256, .inr (.inr (.inr (.inr hf1)))))] ++ (lzc cB (la, pid, nx, ct, tw, (300 * (rw_bits f n 9400 (8 * (k + 6)) 33)) + (rw_bits f n 9400 (8 * (k + 6) + 39) 9), wr, se, pi) ++ (lpl cB (T1 ++ T2) ++ Q))) H := hP
          have hD : va_D A ([(rv, .inr (4, [.ref tp, .ref ln, .ref tb, .ref ca, .ref dp])), (ca, .inl (cI, 10, .inl (cup cn 1))), (tp, .inr (0, [.ref a, .int (nI n)])), (a, .inl (cB, 9400, .inl f)), (ln, .inr (2, [.ref hd])), (hd, .inl (cN, 256, .inr (.inr (.inr (.inr hf1)))))] ++ (lzc cB (la, pid, nx, ct, tw, (300 * (rw_bits f n 9400 (8 * (k + 6)) 33)) + (rw_bits f n 9400 (8 * (k + 6) + 39) 9), wr, se, pi) ++ (lpl cB (T1 ++ T2) ++ Q))) := hD
          exact lem185 ((300 * (rw_bits f n 9400 (8 * (k + 6)) 33)) + (rw_bits f n 9400 (8 * (k + 6) + 39) 9)) H locs ls (by unfold opK; rw [if_neg (fun z => z.elim h132 h138)]) (lv_sub hl [3, 4, 5, 6, 7, 2, 1] rfl) hP hD hS
    cases hq102 : lnF Ls (opI f n k) with
    | none =>
      have hPc := hP.part (cx := [(ln, .inr (2, [.ref hd])), (hd, .inl (cN, 256, .inr (.inr (.inr (.inr hf)))))]) [4, 5] rfl
      have hKc := hK.sub (tys' := [(cN, .object "StreamSplitter$Lane")]) [2] rfl
      have hDc := hD.part (cx := [(ln, .inr (2, [.ref hd])), (hd, .inl (cN, 256, .inr (.inr (.inr (.inr hf)))))]) [4, 5] (by decide) rfl
      have hFc := va_freeP (cx := [(ln, .inr (2, [.ref hd])), (hd, .inl (cN, 256, .inr (.inr (.inr (.inr hf)))))]) hD hS hA [4, 5] rfl
      refine va_callr (va_runV (As := [.int (nI (opI f n k))]) (rest := []) ⟨hx, hb, hml, hown, hts⟩ (c_Lanes_findOrMakeM l D H.size cB cN ln hd hf (opI f n k) Ls Q (opI_lt f n k) hLN hok hq102) (z_cV hN wd_229 wd_62 wd_226 hd_Lanes_findOrMake rfl rfl ⟨Nat.le_of_ble_eq_true rfl, Nat.le_of_ble_eq_true rfl⟩ wd_227 wd_228) (z_preVm (va_recv (ci := 2) (q0 := 4) hK hP rfl rfl) hPc hKc hN hDc) rfl rfl hl.1 rfl (lv_room (Nat.le_of_ble_eq_true rfl)) d_Receiver_openPacket_102 ⟨Nat.le_of_ble_eq_true rfl, Nat.le_of_ble_eq_true rfl⟩) hS (fun q _ h => hFc q h) hFc (fun u102 y9 t H locs ht hvm e102 hB hz1 hk1 hS => ?_)
      obtain ⟨hP1, hK1, hD1⟩ := hB
      rw [ht] at hP1
      obtain ⟨hP, hD⟩ := va_joinP (wr := [(rv, .inr (4, [.ref tp, .ref ln, .ref tb, .ref ca, .ref dp])), (ca, .inl (cI, 10, .inl (cup cn 1))), (tp, .inr (0, [.ref a, .int (nI n)])), (a, .inl (cB, 9400, .inl f))]) (rx := [(ln, .inr (2, [.ref hd])), (hd, .inl (cN, 256, .inr (.inr (.inr (.inr (va_up hf ((opI f n k) % 256) (some y9)))))))]) hP hD [4, 5] [0, 1, 2, 3] rfl rfl (by decide) (by decide) hk1 hFc hP1 hD1
      clear hk1 hP1 hD1 hFc hPc hDc hz1
      have hP : va_P D classes ([(rv, .inr (4, [.ref tp, .ref ln, .ref tb, .ref ca, .ref dp])), (ca, .inl (cI, 10, .inl (cup cn 1))), (tp, .inr (0, [.ref a, .int (nI n)])), (a, .inl (cB, 9400, .inl f)), (ln, .inr (2, [.ref hd])), (hd, .inl (cN, 256, .inr (.inr (.inr (.inr (va_up hf ((opI f n k) % 256) (some y9)))))))] ++ (lpl cB ((y9, (opI f n k), hf ((opI f n k) % 256), -1, 0, -1, 0, none, none) :: Ls) ++ Q)) H := hP
      have hD : va_D A ([(rv, .inr (4, [.ref tp, .ref ln, .ref tb, .ref ca, .ref dp])), (ca, .inl (cI, 10, .inl (cup cn 1))), (tp, .inr (0, [.ref a, .int (nI n)])), (a, .inl (cB, 9400, .inl f)), (ln, .inr (2, [.ref hd])), (hd, .inl (cN, 256, .inr (.inr (.inr (.inr (va_up hf ((opI f n k) % 256) (some y9)))))))] ++ (lpl cB ((y9, (opI f n k), hf ((opI f n k) % 256), -1, 0, -1, 0, none, none) :: Ls) ++ Q)) := hD
      obtain ⟨z, hze⟩ : ∃ z : LZ, z = (y9, opI f n k, hf (opI f n k % 256), -1, 0, -1, 0, none, none) := ⟨_, rfl⟩
      rw [← hze] at hP hD
      have hza : z.1 = y9 := by rw [hze]
      have hzp : z.2.1 = opI f n k := by rw [hze]
      have hse : ∀ q, z.2.2.2.2.2.2.2.1 = some q → q.2.2.1 ≤ 1024 := fun q hq => by rw [hze] at hq; cases hq
      obtain ⟨T1, hT1⟩ : ∃ T1 : List LZ, T1 = [] := ⟨_, rfl⟩
      obtain ⟨T2, hT2⟩ : ∃ T2 : List LZ, T2 = Ls := ⟨_, rfl⟩
      have hLM : LM Ls T1 T2 z hf (va_up hf (opI f n k % 256) (some y9)) (opI f n k) := ⟨hzp, Or.inr ⟨hq102, hT1, hT2, by rw [hza]; exact hze, by rw [hza]⟩⟩
      have hP := z_Pp (lp_foc2 (X := [(rv, .inr (4, [.ref tp, .ref ln, .ref tb, .ref ca, .ref dp])), (ca, .inl (cI, 10, .inl (cup cn 1))), (tp, .inr (0, [.ref a, .int (nI n)])), (a, .inl (cB, 9400, .inl f)), (ln, .inr (2, [.ref hd])), (hd, .inl (cN, 256, .inr (.inr (.inr (.inr (va_up hf ((opI f n k) % 256) (some y9)))))))]) (T1 := T1) (T2 := T2) (z := z)) (by rw [hT1, hT2]; exact hP)
      have hD := z_Dp (lp_foc2 (X := [(rv, .inr (4, [.ref tp, .ref ln, .ref tb, .ref ca, .ref dp])), (ca, .inl (cI, 10, .inl (cup cn 1))), (tp, .inr (0, [.ref a, .int (nI n)])), (a, .inl (cB, 9400, .inl f)), (ln, .inr (2, [.ref hd])), (hd, .inl (cN, 256, .inr (.inr (.inr (.inr (va_up hf ((opI f n k) % 256) (some y9)))))))]) (T1 := T1) (T2 := T2) (z := z)) (by rw [hT1, hT2]; exact hD)
      obtain ⟨la, pid, nx, ct, tw, ck, wr, se, pi⟩ := z
      obtain rfl : la = y9 := hza
      have hpid : pid = opI f n k := hzp
      rw [← hpid] at hl
      have hl : lv_has ls 8 [(4, .int (nI pid)), (3, .int (nI (opX f n k))), (2, .int (nI (opP f n k))), (0, .ref rv), (1, .int (nI k))] := hl
      exact lem105 T1 T2 (va_up hf (opI f n k % 256) (some la)) la pid nx ct tw ck wr se pi H locs ls hLM hse hpid (lv_sub hl [3, 4, 2, 1, 0] rfl) hP hD hS
    | some y9 =>
      have hPc := hP.part (cx := [(ln, .inr (2, [.ref hd])), (hd, .inl (cN, 256, .inr (.inr (.inr (.inr hf)))))]) [4, 5] rfl
      have hKc := hK.sub (tys' := [(cN, .object "StreamSplitter$Lane")]) [2] rfl
      refine z_cq (va_runV (As := [.int (nI (opI f n k))]) (rest := []) ⟨hx, hb, hml, hown, hts⟩ (c_Lanes_findOrMakeF l D cB cN ln hd hf (opI f n k) Ls Q y9 (opI_lt f n k) hLN hok hq102) (z_cV hN wd_229 wd_62 wd_226 hd_Lanes_findOrMake rfl rfl ⟨Nat.le_of_ble_eq_true rfl, Nat.le_of_ble_eq_true rfl⟩ wd_227 wd_228) (z_preV (va_recv (ci := 2) (q0 := 4) hK hP rfl rfl) hPc hKc hN) rfl rfl hl.1 rfl (lv_room (Nat.le_of_ble_eq_true rfl)) d_Receiver_openPacket_102 ⟨Nat.le_of_ble_eq_true rfl, Nat.le_of_ble_eq_true rfl⟩) (fun r102 e102 => ?_)
      subst e102
      refine z_topq (w := some y9) rfl ?_
      obtain ⟨T1, z, T2, hLs, hza, hzp⟩ := lf_split hq102
      have hse := hLse z (by rw [hLs]; exact List.mem_append_right _ List.mem_cons_self)
      have hLM : LM Ls T1 T2 z hf hf (opI f n k) := ⟨hzp, Or.inl ⟨hLs, rfl⟩⟩
      have hP := z_Pp (lp_foc2 (X := [(rv, .inr (4, [.ref tp, .ref ln, .ref tb, .ref ca, .ref dp])), (ca, .inl (cI, 10, .inl (cup cn 1))), (tp, .inr (0, [.ref a, .int (nI n)])), (a, .inl (cB, 9400, .inl f)), (ln, .inr (2, [.ref hd])), (hd, .inl (cN, 256, .inr (.inr (.inr (.inr hf)))))]) (T1 := T1) (T2 := T2) (z := z)) (by rw [← hLs]; exact hP)
      have hD := z_Dp (lp_foc2 (X := [(rv, .inr (4, [.ref tp, .ref ln, .ref tb, .ref ca, .ref dp])), (ca, .inl (cI, 10, .inl (cup cn 1))), (tp, .inr (0, [.ref a, .int (nI n)])), (a, .inl (cB, 9400, .inl f)), (ln, .inr (2, [.ref hd])), (hd, .inl (cN, 256, .inr (.inr (.inr (.inr hf)))))]) (T1 := T1) (T2 := T2) (z := z)) (by rw [← hLs]; exact hD)
      obtain ⟨la, pid, nx, ct, tw, ck, wr, se, pi⟩ := z
      obtain rfl : la = y9 := hza
      have hpid : pid = opI f n k := hzp
      rw [← hpid] at hl
      have hl : lv_has ls 8 [(4, .int (nI pid)), (3, .int (nI (opX f n k))), (2, .int (nI (opP f n k))), (0, .ref rv), (1, .int (nI k))] := hl
      refine W.widen (k := 0 + 1) (n := 0 + 8) (by omega) (by omega) ?_
      exact lem105 T1 T2 hf la pid nx ct tw ck wr se pi H locs ls hLM hse hpid (lv_sub hl [3, 4, 2, 1, 0] rfl) hP hD hS
  · have hbad : opBad f n k := op_bad.mp (op_b0 h52)
    refine lv_aload_n hx hb d_Receiver_openPacket_55 rfl (lv_at hl 2 rfl) ?_
    refine va_get (D := D) (ci := 4) (v := .ref ca) (C := R_Receiver) (T := F_Receiver) (N := 5) hx hb hts i_Receiver hown hK hP 0 rfl rfl 3 (by decide) (hts _ wd_181) (fun _ h9 => h9) rfl d_Receiver_openPacket_56 ?_
    refine lv_iconst (v := 2) hx hb d_Receiver_openPacket_59 (by decide) ?_
    refine lv_dup2_11 hx hb d_Receiver_openPacket_60 rfl rfl ?_
    refine z_iald hx hb hK hP 1 1 rfl rfl 2 rfl (by decide) (by decide) d_Receiver_openPacket_61 ?_
    refine lv_iconst (v := 1) hx hb d_Receiver_openPacket_62 (by decide) ?_
    refine lv_iadd hx hb d_Receiver_openPacket_63 ?_
    refine z_iast hx hb hK hP hD hS 1 1 rfl rfl 2 rfl (by decide) (by decide) d_Receiver_openPacket_64 (fun H locs hP hD hS => ?_)
    have hP : va_P D classes ([(rv, .inr (4, [.ref tp, .ref ln, .ref tb, .ref ca, .ref dp])), (ca, .inl (cI, 10, .inl (upd (cup cn 1) 2 (((cup cn 1) 2) + 1)))), (tp, .inr (0, [.ref a, .int (nI n)])), (a, .inl (cB, 9400, .inl f)), (ln, .inr (2, [.ref hd])), (hd, .inl (cN, 256, .inr (.inr (.inr (.inr hf)))))] ++ (lpl cB Ls ++ Q)) H := hP
    have hD : va_D A ([(rv, .inr (4, [.ref tp, .ref ln, .ref tb, .ref ca, .ref dp])), (ca, .inl (cI, 10, .inl (upd (cup cn 1) 2 (((cup cn 1) 2) + 1)))), (tp, .inr (0, [.ref a, .int (nI n)])), (a, .inl (cB, 9400, .inl f)), (ln, .inr (2, [.ref hd])), (hd, .inl (cN, 256, .inr (.inr (.inr (.inr hf)))))] ++ (lpl cB Ls ++ Q)) := hD
    rw [show upd (cup cn 1) 2 (((cup cn 1) 2) + 1) = cup (cup cn 1) 2 from rfl] at hP hD
    have hP : va_P D classes ([(rv, .inr (4, [.ref tp, .ref ln, .ref tb, .ref ca, .ref dp])), (ca, .inl (cI, 10, .inl (cup (cup cn 1) 2))), (tp, .inr (0, [.ref a, .int (nI n)])), (a, .inl (cB, 9400, .inl f)), (ln, .inr (2, [.ref hd])), (hd, .inl (cN, 256, .inr (.inr (.inr (.inr hf)))))] ++ (lpl cB Ls ++ Q)) H := hP
    have hD : va_D A ([(rv, .inr (4, [.ref tp, .ref ln, .ref tb, .ref ca, .ref dp])), (ca, .inl (cI, 10, .inl (cup (cup cn 1) 2))), (tp, .inr (0, [.ref a, .int (nI n)])), (a, .inl (cB, 9400, .inl f)), (ln, .inr (2, [.ref hd])), (hd, .inl (cN, 256, .inr (.inr (.inr (.inr hf)))))] ++ (lpl cB Ls ++ Q)) := hD
    refine lv_null hx hb d_Receiver_openPacket_65 ?_
    have hP9 := hP.part (cx := [(rv, .inr (4, [.ref tp, .ref ln, .ref tb, .ref ca, .ref dp])), (ca, .inl (cI, 10, .inl (cup (cup cn 1) 2))), (tp, .inr (0, [.ref a, .int (nI n)])), (a, .inl (cB, 9400, .inl f)), (ln, .inr (2, [.ref hd])), (hd, .inl (cN, 256, .inr (.inr (.inr (.inr hf)))))]) [0, 1, 2, 3, 4, 5] rfl
    have hD9 := hD.part (cx := [(rv, .inr (4, [.ref tp, .ref ln, .ref tb, .ref ca, .ref dp])), (ca, .inl (cI, 10, .inl (cup (cup cn 1) 2))), (tp, .inr (0, [.ref a, .int (nI n)])), (a, .inl (cB, 9400, .inl f)), (ln, .inr (2, [.ref hd])), (hd, .inl (cN, 256, .inr (.inr (.inr (.inr hf)))))]) [0, 1, 2, 3, 4, 5] (by decide) rfl
    have hK9 := hK.sub (tys' := [(cB, .byte), (cI, .int), (cN, .object "StreamSplitter$Lane")]) [0, 1, 2] rfl
    refine W.widen (k := 1) (n := 8) (by omega) (by omega) ?_
    exact W.aret (v := va_rf none) hx hb hr (Or.inl ⟨_, rfl⟩) (va_rf_or _) (fun t ht hW => ⟨⟨_, (cup (cup cn 1) 2, Ls, hf), rfl, Or.inl ⟨hbad, rfl, rfl⟩, ⟨by rw [ht]; exact hP9, va_K.moved hW.alike hK9, hD9⟩⟩, hS.F ht⟩) hS.2.2 d_Receiver_openPacket_66
