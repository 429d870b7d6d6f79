theorem wd_1122 : (Jvm.Cond.fieldLink "StreamSplitterModel" (103 : Nat) "StreamSplitterModel" "oldInts" "[I") ∈ lw_ok := List.mem_filter.mpr ⟨List.mem_of_getElem? (i := 1122) (by decide +kernel), rfl⟩
theorem wd_1123 : (Jvm.Cond.fieldLink "StreamSplitterModel" (106 : Nat) "StreamSplitterModel" "oldAways" "[Z") ∈ lw_ok := List.mem_filter.mpr ⟨List.mem_of_getElem? (i := 1123) (by decide +kernel), rfl⟩
theorem wd_1124 : (Jvm.Cond.fieldLink "StreamSplitterModel" (109 : Nat) "StreamSplitterModel" "oldNows" "[J") ∈ lw_ok := List.mem_filter.mpr ⟨List.mem_of_getElem? (i := 1124) (by decide +kernel), rfl⟩
theorem wd_1125 : (Jvm.Cond.fieldLink "StreamSplitterModel" (112 : Nat) "StreamSplitterModel" "oldTypes" "[I") ∈ lw_ok := List.mem_filter.mpr ⟨List.mem_of_getElem? (i := 1125) (by decide +kernel), rfl⟩
theorem wd_1126 : (Jvm.Cond.fieldLink "StreamSplitterModel" (115 : Nat) "StreamSplitterModel" "oldStreamPids" "[I") ∈ lw_ok := List.mem_filter.mpr ⟨List.mem_of_getElem? (i := 1126) (by decide +kernel), rfl⟩
theorem wd_1127 : (Jvm.Cond.fieldLink "StreamSplitterModel" (118 : Nat) "StreamSplitterModel" "oldTimes" "[J") ∈ lw_ok := List.mem_filter.mpr ⟨List.mem_of_getElem? (i := 1127) (by decide +kernel), rfl⟩
theorem wd_1128 : (Jvm.Cond.fieldLink "StreamSplitterModel" (121 : Nat) "StreamSplitterModel" "oldNames" "[I") ∈ lw_ok := List.mem_filter.mpr ⟨List.mem_of_getElem? (i := 1128) (by decide +kernel), rfl⟩
theorem wd_1129 : (Jvm.Cond.fieldLink "StreamSplitterModel" (124 : Nat) "StreamSplitterModel" "oldOrderAways" "[Z") ∈ lw_ok := List.mem_filter.mpr ⟨List.mem_of_getElem? (i := 1129) (by decide +kernel), rfl⟩
theorem wd_1130 : (Jvm.Cond.fieldLink "StreamSplitterModel" (127 : Nat) "StreamSplitterModel" "oldLengths" "[J") ∈ lw_ok := List.mem_filter.mpr ⟨List.mem_of_getElem? (i := 1130) (by decide +kernel), rfl⟩
theorem d_Mo_asBefore_0 : decode b_Mo_asBefore 0 = .ok (.aload_n 0, 1) := by decide +kernel
theorem d_Mo_asBefore_1 : decode b_Mo_asBefore 1 = .ok (.getfield 67, 3) := by decide +kernel
theorem d_Mo_asBefore_4 : decode b_Mo_asBefore 4 = .ok (.iload_n 1, 1) := by decide +kernel
theorem d_Mo_asBefore_5 : decode b_Mo_asBefore 5 = .ok (.aload_n 0, 1) := by decide +kernel
theorem d_Mo_asBefore_6 : decode b_Mo_asBefore 6 = .ok (.getfield 103, 3) := by decide +kernel
theorem d_Mo_asBefore_9 : decode b_Mo_asBefore 9 = .ok (.bipush 6, 2) := by decide +kernel
theorem d_Mo_asBefore_11 : decode b_Mo_asBefore 11 = .ok (.iload_n 2, 1) := by decide +kernel
theorem d_Mo_asBefore_12 : decode b_Mo_asBefore 12 = .ok (.imul, 1) := by decide +kernel
theorem d_Mo_asBefore_13 : decode b_Mo_asBefore 13 = .ok (.iconst 2, 1) := by decide +kernel
theorem d_Mo_asBefore_14 : decode b_Mo_asBefore 14 = .ok (.iadd, 1) := by decide +kernel
theorem d_Mo_asBefore_15 : decode b_Mo_asBefore 15 = .ok (.iaload, 1) := by decide +kernel
theorem d_Mo_asBefore_16 : decode b_Mo_asBefore 16 = .ok (.iastore, 1) := by decide +kernel
theorem d_Mo_asBefore_17 : decode b_Mo_asBefore 17 = .ok (.aload_n 0, 1) := by decide +kernel
theorem d_Mo_asBefore_18 : decode b_Mo_asBefore 18 = .ok (.getfield 70, 3) := by decide +kernel
theorem d_Mo_asBefore_21 : decode b_Mo_asBefore 21 = .ok (.iload_n 1, 1) := by decide +kernel
theorem d_Mo_asBefore_22 : decode b_Mo_asBefore 22 = .ok (.aload_n 0, 1) := by decide +kernel
theorem d_Mo_asBefore_23 : decode b_Mo_asBefore 23 = .ok (.getfield 103, 3) := by decide +kernel
theorem d_Mo_asBefore_26 : decode b_Mo_asBefore 26 = .ok (.bipush 6, 2) := by decide +kernel
theorem d_Mo_asBefore_28 : decode b_Mo_asBefore 28 = .ok (.iload_n 2, 1) := by decide +kernel
theorem d_Mo_asBefore_29 : decode b_Mo_asBefore 29 = .ok (.imul, 1) := by decide +kernel
theorem d_Mo_asBefore_30 : decode b_Mo_asBefore 30 = .ok (.iconst 3, 1) := by decide +kernel
theorem d_Mo_asBefore_31 : decode b_Mo_asBefore 31 = .ok (.iadd, 1) := by decide +kernel
theorem d_Mo_asBefore_32 : decode b_Mo_asBefore 32 = .ok (.iaload, 1) := by decide +kernel
theorem d_Mo_asBefore_33 : decode b_Mo_asBefore 33 = .ok (.iastore, 1) := by decide +kernel
theorem d_Mo_asBefore_34 : decode b_Mo_asBefore 34 = .ok (.aload_n 0, 1) := by decide +kernel
theorem d_Mo_asBefore_35 : decode b_Mo_asBefore 35 = .ok (.getfield 73, 3) := by decide +kernel
theorem d_Mo_asBefore_38 : decode b_Mo_asBefore 38 = .ok (.iload_n 1, 1) := by decide +kernel
theorem d_Mo_asBefore_39 : decode b_Mo_asBefore 39 = .ok (.aload_n 0, 1) := by decide +kernel
theorem d_Mo_asBefore_40 : decode b_Mo_asBefore 40 = .ok (.getfield 103, 3) := by decide +kernel
theorem d_Mo_asBefore_43 : decode b_Mo_asBefore 43 = .ok (.bipush 6, 2) := by decide +kernel
theorem d_Mo_asBefore_45 : decode b_Mo_asBefore 45 = .ok (.iload_n 2, 1) := by decide +kernel
theorem d_Mo_asBefore_46 : decode b_Mo_asBefore 46 = .ok (.imul, 1) := by decide +kernel
theorem d_Mo_asBefore_47 : decode b_Mo_asBefore 47 = .ok (.iconst 4, 1) := by decide +kernel
theorem d_Mo_asBefore_48 : decode b_Mo_asBefore 48 = .ok (.iadd, 1) := by decide +kernel
theorem d_Mo_asBefore_49 : decode b_Mo_asBefore 49 = .ok (.iaload, 1) := by decide +kernel
theorem d_Mo_asBefore_50 : decode b_Mo_asBefore 50 = .ok (.iastore, 1) := by decide +kernel
theorem d_Mo_asBefore_51 : decode b_Mo_asBefore 51 = .ok (.aload_n 0, 1) := by decide +kernel
theorem d_Mo_asBefore_52 : decode b_Mo_asBefore 52 = .ok (.getfield 82, 3) := by decide +kernel
theorem d_Mo_asBefore_55 : decode b_Mo_asBefore 55 = .ok (.iload_n 1, 1) := by decide +kernel
theorem d_Mo_asBefore_56 : decode b_Mo_asBefore 56 = .ok (.aload_n 0, 1) := by decide +kernel
theorem d_Mo_asBefore_57 : decode b_Mo_asBefore 57 = .ok (.getfield 103, 3) := by decide +kernel
theorem d_Mo_asBefore_60 : decode b_Mo_asBefore 60 = .ok (.bipush 6, 2) := by decide +kernel
theorem d_Mo_asBefore_62 : decode b_Mo_asBefore 62 = .ok (.iload_n 2, 1) := by decide +kernel
theorem d_Mo_asBefore_63 : decode b_Mo_asBefore 63 = .ok (.imul, 1) := by decide +kernel
theorem d_Mo_asBefore_64 : decode b_Mo_asBefore 64 = .ok (.iconst 5, 1) := by decide +kernel
theorem d_Mo_asBefore_65 : decode b_Mo_asBefore 65 = .ok (.iadd, 1) := by decide +kernel
theorem d_Mo_asBefore_66 : decode b_Mo_asBefore 66 = .ok (.iaload, 1) := by decide +kernel
theorem d_Mo_asBefore_67 : decode b_Mo_asBefore 67 = .ok (.iastore, 1) := by decide +kernel
theorem d_Mo_asBefore_68 : decode b_Mo_asBefore 68 = .ok (.aload_n 0, 1) := by decide +kernel
theorem d_Mo_asBefore_69 : decode b_Mo_asBefore 69 = .ok (.getfield 76, 3) := by decide +kernel
theorem d_Mo_asBefore_72 : decode b_Mo_asBefore 72 = .ok (.iload_n 1, 1) := by decide +kernel
theorem d_Mo_asBefore_73 : decode b_Mo_asBefore 73 = .ok (.aload_n 0, 1) := by decide +kernel
theorem d_Mo_asBefore_74 : decode b_Mo_asBefore 74 = .ok (.getfield 106, 3) := by decide +kernel
theorem d_Mo_asBefore_77 : decode b_Mo_asBefore 77 = .ok (.iload_n 2, 1) := by decide +kernel
theorem d_Mo_asBefore_78 : decode b_Mo_asBefore 78 = .ok (.baload, 1) := by decide +kernel
theorem d_Mo_asBefore_79 : decode b_Mo_asBefore 79 = .ok (.bastore, 1) := by decide +kernel
theorem d_Mo_asBefore_80 : decode b_Mo_asBefore 80 = .ok (.aload_n 0, 1) := by decide +kernel
theorem d_Mo_asBefore_81 : decode b_Mo_asBefore 81 = .ok (.getfield 79, 3) := by decide +kernel
theorem d_Mo_asBefore_84 : decode b_Mo_asBefore 84 = .ok (.iload_n 1, 1) := by decide +kernel
theorem d_Mo_asBefore_85 : decode b_Mo_asBefore 85 = .ok (.aload_n 0, 1) := by decide +kernel
theorem d_Mo_asBefore_86 : decode b_Mo_asBefore 86 = .ok (.getfield 109, 3) := by decide +kernel
theorem d_Mo_asBefore_89 : decode b_Mo_asBefore 89 = .ok (.iload_n 2, 1) := by decide +kernel
theorem d_Mo_asBefore_90 : decode b_Mo_asBefore 90 = .ok (.laload, 1) := by decide +kernel
theorem d_Mo_asBefore_91 : decode b_Mo_asBefore 91 = .ok (.lastore, 1) := by decide +kernel
theorem d_Mo_asBefore_92 : decode b_Mo_asBefore 92 = .ok (.iconst 0, 1) := by decide +kernel
theorem d_Mo_asBefore_93 : decode b_Mo_asBefore 93 = .ok (.istore_n 3, 1) := by decide +kernel
theorem d_Mo_asBefore_94 : decode b_Mo_asBefore 94 = .ok (.iload_n 3, 1) := by decide +kernel
theorem d_Mo_asBefore_95 : decode b_Mo_asBefore 95 = .ok (.iconst 4, 1) := by decide +kernel
theorem d_Mo_asBefore_96 : decode b_Mo_asBefore 96 = .ok (.if_icmp .ge 49, 3) := by decide +kernel
theorem d_Mo_asBefore_99 : decode b_Mo_asBefore 99 = .ok (.aload_n 0, 1) := by decide +kernel
theorem d_Mo_asBefore_100 : decode b_Mo_asBefore 100 = .ok (.getfield 85, 3) := by decide +kernel
theorem d_Mo_asBefore_103 : decode b_Mo_asBefore 103 = .ok (.iconst 4, 1) := by decide +kernel
theorem d_Mo_asBefore_104 : decode b_Mo_asBefore 104 = .ok (.iload_n 1, 1) := by decide +kernel
theorem d_Mo_asBefore_105 : decode b_Mo_asBefore 105 = .ok (.imul, 1) := by decide +kernel
theorem d_Mo_asBefore_106 : decode b_Mo_asBefore 106 = .ok (.iload_n 3, 1) := by decide +kernel
theorem d_Mo_asBefore_107 : decode b_Mo_asBefore 107 = .ok (.iadd, 1) := by decide +kernel
theorem d_Mo_asBefore_108 : decode b_Mo_asBefore 108 = .ok (.aload_n 0, 1) := by decide +kernel
theorem d_Mo_asBefore_109 : decode b_Mo_asBefore 109 = .ok (.getfield 112, 3) := by decide +kernel
theorem d_Mo_asBefore_112 : decode b_Mo_asBefore 112 = .ok (.iconst 4, 1) := by decide +kernel
theorem d_Mo_asBefore_113 : decode b_Mo_asBefore 113 = .ok (.iload_n 2, 1) := by decide +kernel
theorem d_Mo_asBefore_114 : decode b_Mo_asBefore 114 = .ok (.imul, 1) := by decide +kernel
theorem d_Mo_asBefore_115 : decode b_Mo_asBefore 115 = .ok (.iload_n 3, 1) := by decide +kernel
theorem d_Mo_asBefore_116 : decode b_Mo_asBefore 116 = .ok (.iadd, 1) := by decide +kernel
theorem d_Mo_asBefore_117 : decode b_Mo_asBefore 117 = .ok (.iaload, 1) := by decide +kernel
theorem d_Mo_asBefore_118 : decode b_Mo_asBefore 118 = .ok (.iastore, 1) := by decide +kernel
theorem d_Mo_asBefore_119 : decode b_Mo_asBefore 119 = .ok (.aload_n 0, 1) := by decide +kernel
theorem d_Mo_asBefore_120 : decode b_Mo_asBefore 120 = .ok (.getfield 88, 3) := by decide +kernel
theorem d_Mo_asBefore_123 : decode b_Mo_asBefore 123 = .ok (.iconst 4, 1) := by decide +kernel
theorem d_Mo_asBefore_124 : decode b_Mo_asBefore 124 = .ok (.iload_n 1, 1) := by decide +kernel
theorem d_Mo_asBefore_125 : decode b_Mo_asBefore 125 = .ok (.imul, 1) := by decide +kernel
theorem d_Mo_asBefore_126 : decode b_Mo_asBefore 126 = .ok (.iload_n 3, 1) := by decide +kernel
theorem d_Mo_asBefore_127 : decode b_Mo_asBefore 127 = .ok (.iadd, 1) := by decide +kernel
theorem d_Mo_asBefore_128 : decode b_Mo_asBefore 128 = .ok (.aload_n 0, 1) := by decide +kernel
theorem d_Mo_asBefore_129 : decode b_Mo_asBefore 129 = .ok (.getfield 115, 3) := by decide +kernel
theorem d_Mo_asBefore_132 : decode b_Mo_asBefore 132 = .ok (.iconst 4, 1) := by decide +kernel
theorem d_Mo_asBefore_133 : decode b_Mo_asBefore 133 = .ok (.iload_n 2, 1) := by decide +kernel
theorem d_Mo_asBefore_134 : decode b_Mo_asBefore 134 = .ok (.imul, 1) := by decide +kernel
theorem d_Mo_asBefore_135 : decode b_Mo_asBefore 135 = .ok (.iload_n 3, 1) := by decide +kernel
theorem d_Mo_asBefore_136 : decode b_Mo_asBefore 136 = .ok (.iadd, 1) := by decide +kernel
theorem d_Mo_asBefore_137 : decode b_Mo_asBefore 137 = .ok (.iaload, 1) := by decide +kernel
theorem d_Mo_asBefore_138 : decode b_Mo_asBefore 138 = .ok (.iastore, 1) := by decide +kernel
theorem d_Mo_asBefore_139 : decode b_Mo_asBefore 139 = .ok (.iinc 3 1, 3) := by decide +kernel
theorem d_Mo_asBefore_142 : decode b_Mo_asBefore 142 = .ok (.goto (-48), 3) := by decide +kernel
theorem d_Mo_asBefore_145 : decode b_Mo_asBefore 145 = .ok (.iconst 0, 1) := by decide +kernel
theorem d_Mo_asBefore_146 : decode b_Mo_asBefore 146 = .ok (.istore_n 3, 1) := by decide +kernel
theorem d_Mo_asBefore_147 : decode b_Mo_asBefore 147 = .ok (.iload_n 3, 1) := by decide +kernel
theorem d_Mo_asBefore_148 : decode b_Mo_asBefore 148 = .ok (.bipush 6, 2) := by decide +kernel
theorem d_Mo_asBefore_150 : decode b_Mo_asBefore 150 = .ok (.if_icmp .ge 97, 3) := by decide +kernel
theorem d_Mo_asBefore_153 : decode b_Mo_asBefore 153 = .ok (.aload_n 0, 1) := by decide +kernel
theorem d_Mo_asBefore_154 : decode b_Mo_asBefore 154 = .ok (.getfield 91, 3) := by decide +kernel
theorem d_Mo_asBefore_157 : decode b_Mo_asBefore 157 = .ok (.bipush 6, 2) := by decide +kernel
theorem d_Mo_asBefore_159 : decode b_Mo_asBefore 159 = .ok (.iload_n 1, 1) := by decide +kernel
theorem d_Mo_asBefore_160 : decode b_Mo_asBefore 160 = .ok (.imul, 1) := by decide +kernel
theorem d_Mo_asBefore_161 : decode b_Mo_asBefore 161 = .ok (.iload_n 3, 1) := by decide +kernel
theorem d_Mo_asBefore_162 : decode b_Mo_asBefore 162 = .ok (.iadd, 1) := by decide +kernel
theorem d_Mo_asBefore_163 : decode b_Mo_asBefore 163 = .ok (.aload_n 0, 1) := by decide +kernel
theorem d_Mo_asBefore_164 : decode b_Mo_asBefore 164 = .ok (.getfield 118, 3) := by decide +kernel
theorem d_Mo_asBefore_167 : decode b_Mo_asBefore 167 = .ok (.bipush 6, 2) := by decide +kernel
theorem d_Mo_asBefore_169 : decode b_Mo_asBefore 169 = .ok (.iload_n 2, 1) := by decide +kernel
theorem d_Mo_asBefore_170 : decode b_Mo_asBefore 170 = .ok (.imul, 1) := by decide +kernel
theorem d_Mo_asBefore_171 : decode b_Mo_asBefore 171 = .ok (.iload_n 3, 1) := by decide +kernel
theorem d_Mo_asBefore_172 : decode b_Mo_asBefore 172 = .ok (.iadd, 1) := by decide +kernel
theorem d_Mo_asBefore_173 : decode b_Mo_asBefore 173 = .ok (.laload, 1) := by decide +kernel
theorem d_Mo_asBefore_174 : decode b_Mo_asBefore 174 = .ok (.lastore, 1) := by decide +kernel
theorem d_Mo_asBefore_175 : decode b_Mo_asBefore 175 = .ok (.aload_n 0, 1) := by decide +kernel
theorem d_Mo_asBefore_176 : decode b_Mo_asBefore 176 = .ok (.getfield 94, 3) := by decide +kernel
theorem d_Mo_asBefore_179 : decode b_Mo_asBefore 179 = .ok (.bipush 6, 2) := by decide +kernel
theorem d_Mo_asBefore_181 : decode b_Mo_asBefore 181 = .ok (.iload_n 1, 1) := by decide +kernel
theorem d_Mo_asBefore_182 : decode b_Mo_asBefore 182 = .ok (.imul, 1) := by decide +kernel
theorem d_Mo_asBefore_183 : decode b_Mo_asBefore 183 = .ok (.iload_n 3, 1) := by decide +kernel
theorem d_Mo_asBefore_184 : decode b_Mo_asBefore 184 = .ok (.iadd, 1) := by decide +kernel
theorem d_Mo_asBefore_185 : decode b_Mo_asBefore 185 = .ok (.aload_n 0, 1) := by decide +kernel
theorem d_Mo_asBefore_186 : decode b_Mo_asBefore 186 = .ok (.getfield 121, 3) := by decide +kernel
theorem d_Mo_asBefore_189 : decode b_Mo_asBefore 189 = .ok (.bipush 6, 2) := by decide +kernel
theorem d_Mo_asBefore_191 : decode b_Mo_asBefore 191 = .ok (.iload_n 2, 1) := by decide +kernel
theorem d_Mo_asBefore_192 : decode b_Mo_asBefore 192 = .ok (.imul, 1) := by decide +kernel
theorem d_Mo_asBefore_193 : decode b_Mo_asBefore 193 = .ok (.iload_n 3, 1) := by decide +kernel
theorem d_Mo_asBefore_194 : decode b_Mo_asBefore 194 = .ok (.iadd, 1) := by decide +kernel
theorem d_Mo_asBefore_195 : decode b_Mo_asBefore 195 = .ok (.iaload, 1) := by decide +kernel
theorem d_Mo_asBefore_196 : decode b_Mo_asBefore 196 = .ok (.iastore, 1) := by decide +kernel
theorem d_Mo_asBefore_197 : decode b_Mo_asBefore 197 = .ok (.aload_n 0, 1) := by decide +kernel
theorem d_Mo_asBefore_198 : decode b_Mo_asBefore 198 = .ok (.getfield 97, 3) := by decide +kernel
theorem d_Mo_asBefore_201 : decode b_Mo_asBefore 201 = .ok (.bipush 6, 2) := by decide +kernel
theorem d_Mo_asBefore_203 : decode b_Mo_asBefore 203 = .ok (.iload_n 1, 1) := by decide +kernel
theorem d_Mo_asBefore_204 : decode b_Mo_asBefore 204 = .ok (.imul, 1) := by decide +kernel
theorem d_Mo_asBefore_205 : decode b_Mo_asBefore 205 = .ok (.iload_n 3, 1) := by decide +kernel
theorem d_Mo_asBefore_206 : decode b_Mo_asBefore 206 = .ok (.iadd, 1) := by decide +kernel
theorem d_Mo_asBefore_207 : decode b_Mo_asBefore 207 = .ok (.aload_n 0, 1) := by decide +kernel
theorem d_Mo_asBefore_208 : decode b_Mo_asBefore 208 = .ok (.getfield 124, 3) := by decide +kernel
theorem d_Mo_asBefore_211 : decode b_Mo_asBefore 211 = .ok (.bipush 6, 2) := by decide +kernel
theorem d_Mo_asBefore_213 : decode b_Mo_asBefore 213 = .ok (.iload_n 2, 1) := by decide +kernel
theorem d_Mo_asBefore_214 : decode b_Mo_asBefore 214 = .ok (.imul, 1) := by decide +kernel
theorem d_Mo_asBefore_215 : decode b_Mo_asBefore 215 = .ok (.iload_n 3, 1) := by decide +kernel
theorem d_Mo_asBefore_216 : decode b_Mo_asBefore 216 = .ok (.iadd, 1) := by decide +kernel
theorem d_Mo_asBefore_217 : decode b_Mo_asBefore 217 = .ok (.baload, 1) := by decide +kernel
theorem d_Mo_asBefore_218 : decode b_Mo_asBefore 218 = .ok (.bastore, 1) := by decide +kernel
theorem d_Mo_asBefore_219 : decode b_Mo_asBefore 219 = .ok (.aload_n 0, 1) := by decide +kernel
theorem d_Mo_asBefore_220 : decode b_Mo_asBefore 220 = .ok (.getfield 100, 3) := by decide +kernel
theorem d_Mo_asBefore_223 : decode b_Mo_asBefore 223 = .ok (.bipush 6, 2) := by decide +kernel
theorem d_Mo_asBefore_225 : decode b_Mo_asBefore 225 = .ok (.iload_n 1, 1) := by decide +kernel
theorem d_Mo_asBefore_226 : decode b_Mo_asBefore 226 = .ok (.imul, 1) := by decide +kernel
theorem d_Mo_asBefore_227 : decode b_Mo_asBefore 227 = .ok (.iload_n 3, 1) := by decide +kernel
theorem d_Mo_asBefore_228 : decode b_Mo_asBefore 228 = .ok (.iadd, 1) := by decide +kernel
theorem d_Mo_asBefore_229 : decode b_Mo_asBefore 229 = .ok (.aload_n 0, 1) := by decide +kernel
theorem d_Mo_asBefore_230 : decode b_Mo_asBefore 230 = .ok (.getfield 127, 3) := by decide +kernel
theorem d_Mo_asBefore_233 : decode b_Mo_asBefore 233 = .ok (.bipush 6, 2) := by decide +kernel
theorem d_Mo_asBefore_235 : decode b_Mo_asBefore 235 = .ok (.iload_n 2, 1) := by decide +kernel
theorem d_Mo_asBefore_236 : decode b_Mo_asBefore 236 = .ok (.imul, 1) := by decide +kernel
theorem d_Mo_asBefore_237 : decode b_Mo_asBefore 237 = .ok (.iload_n 3, 1) := by decide +kernel
theorem d_Mo_asBefore_238 : decode b_Mo_asBefore 238 = .ok (.iadd, 1) := by decide +kernel
theorem d_Mo_asBefore_239 : decode b_Mo_asBefore 239 = .ok (.laload, 1) := by decide +kernel
theorem d_Mo_asBefore_240 : decode b_Mo_asBefore 240 = .ok (.lastore, 1) := by decide +kernel
theorem d_Mo_asBefore_241 : decode b_Mo_asBefore 241 = .ok (.iinc 3 1, 3) := by decide +kernel
theorem d_Mo_asBefore_244 : decode b_Mo_asBefore 244 = .ok (.goto (-97), 3) := by decide +kernel
theorem d_Mo_asBefore_247 : decode b_Mo_asBefore 247 = .ok (.return_, 1) := by decide +kernel
theorem d_Mo_keepOld_0 : decode b_Mo_keepOld 0 = .ok (.iconst 0, 1) := by decide +kernel
theorem d_Mo_keepOld_1 : decode b_Mo_keepOld 1 = .ok (.istore_n 1, 1) := by decide +kernel
theorem d_Mo_keepOld_2 : decode b_Mo_keepOld 2 = .ok (.iload_n 1, 1) := by decide +kernel
theorem d_Mo_keepOld_3 : decode b_Mo_keepOld 3 = .ok (.iconst 4, 1) := by decide +kernel
theorem d_Mo_keepOld_4 : decode b_Mo_keepOld 4 = .ok (.if_icmp .ge 145, 3) := by decide +kernel
theorem d_Mo_keepOld_7 : decode b_Mo_keepOld 7 = .ok (.aload_n 0, 1) := by decide +kernel
theorem d_Mo_keepOld_8 : decode b_Mo_keepOld 8 = .ok (.getfield 103, 3) := by decide +kernel
theorem d_Mo_keepOld_11 : decode b_Mo_keepOld 11 = .ok (.bipush 6, 2) := by decide +kernel
theorem d_Mo_keepOld_13 : decode b_Mo_keepOld 13 = .ok (.iload_n 1, 1) := by decide +kernel
theorem d_Mo_keepOld_14 : decode b_Mo_keepOld 14 = .ok (.imul, 1) := by decide +kernel
theorem d_Mo_keepOld_15 : decode b_Mo_keepOld 15 = .ok (.iload_n 1, 1) := by decide +kernel
theorem d_Mo_keepOld_16 : decode b_Mo_keepOld 16 = .ok (.aload_n 0, 1) := by decide +kernel
theorem d_Mo_keepOld_17 : decode b_Mo_keepOld 17 = .ok (.getfield 181, 3) := by decide +kernel
theorem d_Mo_keepOld_20 : decode b_Mo_keepOld 20 = .ok (.if_icmp .ge 12, 3) := by decide +kernel
theorem d_Mo_keepOld_23 : decode b_Mo_keepOld 23 = .ok (.aload_n 0, 1) := by decide +kernel
theorem d_Mo_keepOld_24 : decode b_Mo_keepOld 24 = .ok (.getfield 61, 3) := by decide +kernel
theorem d_Mo_keepOld_27 : decode b_Mo_keepOld 27 = .ok (.iload_n 1, 1) := by decide +kernel
theorem d_Mo_keepOld_28 : decode b_Mo_keepOld 28 = .ok (.iaload, 1) := by decide +kernel
theorem d_Mo_keepOld_29 : decode b_Mo_keepOld 29 = .ok (.goto 4, 3) := by decide +kernel
theorem d_Mo_keepOld_32 : decode b_Mo_keepOld 32 = .ok (.iconst 0, 1) := by decide +kernel
theorem d_Mo_keepOld_33 : decode b_Mo_keepOld 33 = .ok (.iastore, 1) := by decide +kernel
theorem d_Mo_keepOld_34 : decode b_Mo_keepOld 34 = .ok (.aload_n 0, 1) := by decide +kernel
theorem d_Mo_keepOld_35 : decode b_Mo_keepOld 35 = .ok (.getfield 103, 3) := by decide +kernel
theorem d_Mo_keepOld_38 : decode b_Mo_keepOld 38 = .ok (.bipush 6, 2) := by decide +kernel
theorem d_Mo_keepOld_40 : decode b_Mo_keepOld 40 = .ok (.iload_n 1, 1) := by decide +kernel
theorem d_Mo_keepOld_41 : decode b_Mo_keepOld 41 = .ok (.imul, 1) := by decide +kernel
theorem d_Mo_keepOld_42 : decode b_Mo_keepOld 42 = .ok (.iconst 1, 1) := by decide +kernel
theorem d_Mo_keepOld_43 : decode b_Mo_keepOld 43 = .ok (.iadd, 1) := by decide +kernel
theorem d_Mo_keepOld_44 : decode b_Mo_keepOld 44 = .ok (.aload_n 0, 1) := by decide +kernel
theorem d_Mo_keepOld_45 : decode b_Mo_keepOld 45 = .ok (.getfield 64, 3) := by decide +kernel
theorem d_Mo_keepOld_48 : decode b_Mo_keepOld 48 = .ok (.iload_n 1, 1) := by decide +kernel
theorem d_Mo_keepOld_49 : decode b_Mo_keepOld 49 = .ok (.iaload, 1) := by decide +kernel
theorem d_Mo_keepOld_50 : decode b_Mo_keepOld 50 = .ok (.iastore, 1) := by decide +kernel
theorem d_Mo_keepOld_51 : decode b_Mo_keepOld 51 = .ok (.aload_n 0, 1) := by decide +kernel
theorem d_Mo_keepOld_52 : decode b_Mo_keepOld 52 = .ok (.getfield 103, 3) := by decide +kernel
theorem d_Mo_keepOld_55 : decode b_Mo_keepOld 55 = .ok (.bipush 6, 2) := by decide +kernel
theorem d_Mo_keepOld_57 : decode b_Mo_keepOld 57 = .ok (.iload_n 1, 1) := by decide +kernel
theorem d_Mo_keepOld_58 : decode b_Mo_keepOld 58 = .ok (.imul, 1) := by decide +kernel
theorem d_Mo_keepOld_59 : decode b_Mo_keepOld 59 = .ok (.iconst 2, 1) := by decide +kernel
theorem d_Mo_keepOld_60 : decode b_Mo_keepOld 60 = .ok (.iadd, 1) := by decide +kernel
theorem d_Mo_keepOld_61 : decode b_Mo_keepOld 61 = .ok (.aload_n 0, 1) := by decide +kernel
theorem d_Mo_keepOld_62 : decode b_Mo_keepOld 62 = .ok (.getfield 67, 3) := by decide +kernel
theorem d_Mo_keepOld_65 : decode b_Mo_keepOld 65 = .ok (.iload_n 1, 1) := by decide +kernel
theorem d_Mo_keepOld_66 : decode b_Mo_keepOld 66 = .ok (.iaload, 1) := by decide +kernel
theorem d_Mo_keepOld_67 : decode b_Mo_keepOld 67 = .ok (.iastore, 1) := by decide +kernel
theorem d_Mo_keepOld_68 : decode b_Mo_keepOld 68 = .ok (.aload_n 0, 1) := by decide +kernel
theorem d_Mo_keepOld_69 : decode b_Mo_keepOld 69 = .ok (.getfield 103, 3) := by decide +kernel
theorem d_Mo_keepOld_72 : decode b_Mo_keepOld 72 = .ok (.bipush 6, 2) := by decide +kernel
theorem d_Mo_keepOld_74 : decode b_Mo_keepOld 74 = .ok (.iload_n 1, 1) := by decide +kernel
theorem d_Mo_keepOld_75 : decode b_Mo_keepOld 75 = .ok (.imul, 1) := by decide +kernel
theorem d_Mo_keepOld_76 : decode b_Mo_keepOld 76 = .ok (.iconst 3, 1) := by decide +kernel
theorem d_Mo_keepOld_77 : decode b_Mo_keepOld 77 = .ok (.iadd, 1) := by decide +kernel
theorem d_Mo_keepOld_78 : decode b_Mo_keepOld 78 = .ok (.aload_n 0, 1) := by decide +kernel
theorem d_Mo_keepOld_79 : decode b_Mo_keepOld 79 = .ok (.getfield 70, 3) := by decide +kernel
theorem d_Mo_keepOld_82 : decode b_Mo_keepOld 82 = .ok (.iload_n 1, 1) := by decide +kernel
theorem d_Mo_keepOld_83 : decode b_Mo_keepOld 83 = .ok (.iaload, 1) := by decide +kernel
theorem d_Mo_keepOld_84 : decode b_Mo_keepOld 84 = .ok (.iastore, 1) := by decide +kernel
theorem d_Mo_keepOld_85 : decode b_Mo_keepOld 85 = .ok (.aload_n 0, 1) := by decide +kernel
theorem d_Mo_keepOld_86 : decode b_Mo_keepOld 86 = .ok (.getfield 103, 3) := by decide +kernel
theorem d_Mo_keepOld_89 : decode b_Mo_keepOld 89 = .ok (.bipush 6, 2) := by decide +kernel
theorem d_Mo_keepOld_91 : decode b_Mo_keepOld 91 = .ok (.iload_n 1, 1) := by decide +kernel
theorem d_Mo_keepOld_92 : decode b_Mo_keepOld 92 = .ok (.imul, 1) := by decide +kernel
theorem d_Mo_keepOld_93 : decode b_Mo_keepOld 93 = .ok (.iconst 4, 1) := by decide +kernel
theorem d_Mo_keepOld_94 : decode b_Mo_keepOld 94 = .ok (.iadd, 1) := by decide +kernel
theorem d_Mo_keepOld_95 : decode b_Mo_keepOld 95 = .ok (.aload_n 0, 1) := by decide +kernel
theorem d_Mo_keepOld_96 : decode b_Mo_keepOld 96 = .ok (.getfield 73, 3) := by decide +kernel
theorem d_Mo_keepOld_99 : decode b_Mo_keepOld 99 = .ok (.iload_n 1, 1) := by decide +kernel
theorem d_Mo_keepOld_100 : decode b_Mo_keepOld 100 = .ok (.iaload, 1) := by decide +kernel
theorem d_Mo_keepOld_101 : decode b_Mo_keepOld 101 = .ok (.iastore, 1) := by decide +kernel
theorem d_Mo_keepOld_102 : decode b_Mo_keepOld 102 = .ok (.aload_n 0, 1) := by decide +kernel
theorem d_Mo_keepOld_103 : decode b_Mo_keepOld 103 = .ok (.getfield 103, 3) := by decide +kernel
theorem d_Mo_keepOld_106 : decode b_Mo_keepOld 106 = .ok (.bipush 6, 2) := by decide +kernel
theorem d_Mo_keepOld_108 : decode b_Mo_keepOld 108 = .ok (.iload_n 1, 1) := by decide +kernel
theorem d_Mo_keepOld_109 : decode b_Mo_keepOld 109 = .ok (.imul, 1) := by decide +kernel
theorem d_Mo_keepOld_110 : decode b_Mo_keepOld 110 = .ok (.iconst 5, 1) := by decide +kernel
theorem d_Mo_keepOld_111 : decode b_Mo_keepOld 111 = .ok (.iadd, 1) := by decide +kernel
theorem d_Mo_keepOld_112 : decode b_Mo_keepOld 112 = .ok (.aload_n 0, 1) := by decide +kernel
theorem d_Mo_keepOld_113 : decode b_Mo_keepOld 113 = .ok (.getfield 82, 3) := by decide +kernel
theorem d_Mo_keepOld_116 : decode b_Mo_keepOld 116 = .ok (.iload_n 1, 1) := by decide +kernel
theorem d_Mo_keepOld_117 : decode b_Mo_keepOld 117 = .ok (.iaload, 1) := by decide +kernel
theorem d_Mo_keepOld_118 : decode b_Mo_keepOld 118 = .ok (.iastore, 1) := by decide +kernel
theorem d_Mo_keepOld_119 : decode b_Mo_keepOld 119 = .ok (.aload_n 0, 1) := by decide +kernel
theorem d_Mo_keepOld_120 : decode b_Mo_keepOld 120 = .ok (.getfield 106, 3) := by decide +kernel
theorem d_Mo_keepOld_123 : decode b_Mo_keepOld 123 = .ok (.iload_n 1, 1) := by decide +kernel
theorem d_Mo_keepOld_124 : decode b_Mo_keepOld 124 = .ok (.aload_n 0, 1) := by decide +kernel
theorem d_Mo_keepOld_125 : decode b_Mo_keepOld 125 = .ok (.getfield 76, 3) := by decide +kernel
theorem d_Mo_keepOld_128 : decode b_Mo_keepOld 128 = .ok (.iload_n 1, 1) := by decide +kernel
theorem d_Mo_keepOld_129 : decode b_Mo_keepOld 129 = .ok (.baload, 1) := by decide +kernel
theorem d_Mo_keepOld_130 : decode b_Mo_keepOld 130 = .ok (.bastore, 1) := by decide +kernel
theorem d_Mo_keepOld_131 : decode b_Mo_keepOld 131 = .ok (.aload_n 0, 1) := by decide +kernel
theorem d_Mo_keepOld_132 : decode b_Mo_keepOld 132 = .ok (.getfield 109, 3) := by decide +kernel
theorem d_Mo_keepOld_135 : decode b_Mo_keepOld 135 = .ok (.iload_n 1, 1) := by decide +kernel
theorem d_Mo_keepOld_136 : decode b_Mo_keepOld 136 = .ok (.aload_n 0, 1) := by decide +kernel
theorem d_Mo_keepOld_137 : decode b_Mo_keepOld 137 = .ok (.getfield 79, 3) := by decide +kernel
theorem d_Mo_keepOld_140 : decode b_Mo_keepOld 140 = .ok (.iload_n 1, 1) := by decide +kernel
theorem d_Mo_keepOld_141 : decode b_Mo_keepOld 141 = .ok (.laload, 1) := by decide +kernel
theorem d_Mo_keepOld_142 : decode b_Mo_keepOld 142 = .ok (.lastore, 1) := by decide +kernel
theorem d_Mo_keepOld_143 : decode b_Mo_keepOld 143 = .ok (.iinc 1 1, 3) := by decide +kernel
theorem d_Mo_keepOld_146 : decode b_Mo_keepOld 146 = .ok (.goto (-144), 3) := by decide +kernel
theorem d_Mo_keepOld_149 : decode b_Mo_keepOld 149 = .ok (.iconst 0, 1) := by decide +kernel
theorem d_Mo_keepOld_150 : decode b_Mo_keepOld 150 = .ok (.istore_n 1, 1) := by decide +kernel
theorem d_Mo_keepOld_151 : decode b_Mo_keepOld 151 = .ok (.iload_n 1, 1) := by decide +kernel
theorem d_Mo_keepOld_152 : decode b_Mo_keepOld 152 = .ok (.bipush 16, 2) := by decide +kernel
theorem d_Mo_keepOld_154 : decode b_Mo_keepOld 154 = .ok (.if_icmp .ge 33, 3) := by decide +kernel
theorem d_Mo_keepOld_157 : decode b_Mo_keepOld 157 = .ok (.aload_n 0, 1) := by decide +kernel
theorem d_Mo_keepOld_158 : decode b_Mo_keepOld 158 = .ok (.getfield 112, 3) := by decide +kernel
theorem d_Mo_keepOld_161 : decode b_Mo_keepOld 161 = .ok (.iload_n 1, 1) := by decide +kernel
theorem d_Mo_keepOld_162 : decode b_Mo_keepOld 162 = .ok (.aload_n 0, 1) := by decide +kernel
theorem d_Mo_keepOld_163 : decode b_Mo_keepOld 163 = .ok (.getfield 85, 3) := by decide +kernel
theorem d_Mo_keepOld_166 : decode b_Mo_keepOld 166 = .ok (.iload_n 1, 1) := by decide +kernel
theorem d_Mo_keepOld_167 : decode b_Mo_keepOld 167 = .ok (.iaload, 1) := by decide +kernel
theorem d_Mo_keepOld_168 : decode b_Mo_keepOld 168 = .ok (.iastore, 1) := by decide +kernel
theorem d_Mo_keepOld_169 : decode b_Mo_keepOld 169 = .ok (.aload_n 0, 1) := by decide +kernel
theorem d_Mo_keepOld_170 : decode b_Mo_keepOld 170 = .ok (.getfield 115, 3) := by decide +kernel
theorem d_Mo_keepOld_173 : decode b_Mo_keepOld 173 = .ok (.iload_n 1, 1) := by decide +kernel
theorem d_Mo_keepOld_174 : decode b_Mo_keepOld 174 = .ok (.aload_n 0, 1) := by decide +kernel
theorem d_Mo_keepOld_175 : decode b_Mo_keepOld 175 = .ok (.getfield 88, 3) := by decide +kernel
theorem d_Mo_keepOld_178 : decode b_Mo_keepOld 178 = .ok (.iload_n 1, 1) := by decide +kernel
theorem d_Mo_keepOld_179 : decode b_Mo_keepOld 179 = .ok (.iaload, 1) := by decide +kernel
theorem d_Mo_keepOld_180 : decode b_Mo_keepOld 180 = .ok (.iastore, 1) := by decide +kernel
theorem d_Mo_keepOld_181 : decode b_Mo_keepOld 181 = .ok (.iinc 1 1, 3) := by decide +kernel
theorem d_Mo_keepOld_184 : decode b_Mo_keepOld 184 = .ok (.goto (-33), 3) := by decide +kernel
theorem d_Mo_keepOld_187 : decode b_Mo_keepOld 187 = .ok (.iconst 0, 1) := by decide +kernel
theorem d_Mo_keepOld_188 : decode b_Mo_keepOld 188 = .ok (.istore_n 1, 1) := by decide +kernel
theorem d_Mo_keepOld_189 : decode b_Mo_keepOld 189 = .ok (.iload_n 1, 1) := by decide +kernel
theorem d_Mo_keepOld_190 : decode b_Mo_keepOld 190 = .ok (.bipush 24, 2) := by decide +kernel
theorem d_Mo_keepOld_192 : decode b_Mo_keepOld 192 = .ok (.if_icmp .ge 57, 3) := by decide +kernel
theorem d_Mo_keepOld_195 : decode b_Mo_keepOld 195 = .ok (.aload_n 0, 1) := by decide +kernel
theorem d_Mo_keepOld_196 : decode b_Mo_keepOld 196 = .ok (.getfield 118, 3) := by decide +kernel
theorem d_Mo_keepOld_199 : decode b_Mo_keepOld 199 = .ok (.iload_n 1, 1) := by decide +kernel
theorem d_Mo_keepOld_200 : decode b_Mo_keepOld 200 = .ok (.aload_n 0, 1) := by decide +kernel
theorem d_Mo_keepOld_201 : decode b_Mo_keepOld 201 = .ok (.getfield 91, 3) := by decide +kernel
theorem d_Mo_keepOld_204 : decode b_Mo_keepOld 204 = .ok (.iload_n 1, 1) := by decide +kernel
theorem d_Mo_keepOld_205 : decode b_Mo_keepOld 205 = .ok (.laload, 1) := by decide +kernel
theorem d_Mo_keepOld_206 : decode b_Mo_keepOld 206 = .ok (.lastore, 1) := by decide +kernel
theorem d_Mo_keepOld_207 : decode b_Mo_keepOld 207 = .ok (.aload_n 0, 1) := by decide +kernel
theorem d_Mo_keepOld_208 : decode b_Mo_keepOld 208 = .ok (.getfield 121, 3) := by decide +kernel
theorem d_Mo_keepOld_211 : decode b_Mo_keepOld 211 = .ok (.iload_n 1, 1) := by decide +kernel
theorem d_Mo_keepOld_212 : decode b_Mo_keepOld 212 = .ok (.aload_n 0, 1) := by decide +kernel
theorem d_Mo_keepOld_213 : decode b_Mo_keepOld 213 = .ok (.getfield 94, 3) := by decide +kernel
theorem d_Mo_keepOld_216 : decode b_Mo_keepOld 216 = .ok (.iload_n 1, 1) := by decide +kernel
theorem d_Mo_keepOld_217 : decode b_Mo_keepOld 217 = .ok (.iaload, 1) := by decide +kernel
theorem d_Mo_keepOld_218 : decode b_Mo_keepOld 218 = .ok (.iastore, 1) := by decide +kernel
theorem d_Mo_keepOld_219 : decode b_Mo_keepOld 219 = .ok (.aload_n 0, 1) := by decide +kernel
theorem d_Mo_keepOld_220 : decode b_Mo_keepOld 220 = .ok (.getfield 124, 3) := by decide +kernel
theorem d_Mo_keepOld_223 : decode b_Mo_keepOld 223 = .ok (.iload_n 1, 1) := by decide +kernel
theorem d_Mo_keepOld_224 : decode b_Mo_keepOld 224 = .ok (.aload_n 0, 1) := by decide +kernel
theorem d_Mo_keepOld_225 : decode b_Mo_keepOld 225 = .ok (.getfield 97, 3) := by decide +kernel
theorem d_Mo_keepOld_228 : decode b_Mo_keepOld 228 = .ok (.iload_n 1, 1) := by decide +kernel
theorem d_Mo_keepOld_229 : decode b_Mo_keepOld 229 = .ok (.baload, 1) := by decide +kernel
theorem d_Mo_keepOld_230 : decode b_Mo_keepOld 230 = .ok (.bastore, 1) := by decide +kernel
theorem d_Mo_keepOld_231 : decode b_Mo_keepOld 231 = .ok (.aload_n 0, 1) := by decide +kernel
theorem d_Mo_keepOld_232 : decode b_Mo_keepOld 232 = .ok (.getfield 127, 3) := by decide +kernel
theorem d_Mo_keepOld_235 : decode b_Mo_keepOld 235 = .ok (.iload_n 1, 1) := by decide +kernel
theorem d_Mo_keepOld_236 : decode b_Mo_keepOld 236 = .ok (.aload_n 0, 1) := by decide +kernel
theorem d_Mo_keepOld_237 : decode b_Mo_keepOld 237 = .ok (.getfield 100, 3) := by decide +kernel
theorem d_Mo_keepOld_240 : decode b_Mo_keepOld 240 = .ok (.iload_n 1, 1) := by decide +kernel
theorem d_Mo_keepOld_241 : decode b_Mo_keepOld 241 = .ok (.laload, 1) := by decide +kernel
theorem d_Mo_keepOld_242 : decode b_Mo_keepOld 242 = .ok (.lastore, 1) := by decide +kernel
theorem d_Mo_keepOld_243 : decode b_Mo_keepOld 243 = .ok (.iinc 1 1, 3) := by decide +kernel
theorem d_Mo_keepOld_246 : decode b_Mo_keepOld 246 = .ok (.goto (-57), 3) := by decide +kernel
theorem d_Mo_keepOld_249 : decode b_Mo_keepOld 249 = .ok (.return_, 1) := by decide +kernel
/-! The reference's list of programmes -/
abbrev PG := (Nat → Int32) × (Nat → Int32) × (Nat → Int32) × (Nat → Int32) × (Nat → Int32) × (Nat → Int32) × (Nat → Int64) × (Nat → Int32) × (Nat → Int32) × (Nat → Int32) × OQ
abbrev PG.nu (g : PG) : Nat → Int32 := g.1
abbrev PG.pi (g : PG) : Nat → Int32 := g.2.1
abbrev PG.vs (g : PG) : Nat → Int32 := g.2.2.1
abbrev PG.cp (g : PG) : Nat → Int32 := g.2.2.2.1
abbrev PG.sc (g : PG) : Nat → Int32 := g.2.2.2.2.1
abbrev PG.aw (g : PG) : Nat → Int32 := g.2.2.2.2.2.1
abbrev PG.nw (g : PG) : Nat → Int64 := g.2.2.2.2.2.2.1
abbrev PG.wt (g : PG) : Nat → Int32 := g.2.2.2.2.2.2.2.1
abbrev PG.ty (g : PG) : Nat → Int32 := g.2.2.2.2.2.2.2.2.1
abbrev PG.sp (g : PG) : Nat → Int32 := g.2.2.2.2.2.2.2.2.2.1
abbrev PG.z (g : PG) : OQ := g.2.2.2.2.2.2.2.2.2.2
abbrev OG := (Nat → Int32) × (Nat → Int32) × (Nat → Int64) × (Nat → Int32) × (Nat → Int32) × OQ
abbrev OG.oI (g : OG) : Nat → Int32 := g.1
abbrev OG.oA (g : OG) : Nat → Int32 := g.2.1
abbrev OG.oW (g : OG) : Nat → Int64 := g.2.2.1
abbrev OG.oT (g : OG) : Nat → Int32 := g.2.2.2.1
abbrev OG.oS (g : OG) : Nat → Int32 := g.2.2.2.2.1
abbrev OG.z (g : OG) : OQ := g.2.2.2.2.2
def kpI (g : PG) (ng : Nat) (f : Nat → Int32) : Nat → Nat → Int32
  | 0 => f
  | j + 1 => upd (upd (upd (upd (upd (upd (kpI g ng f j) (6 * j) (if j < ng then g.nu j else 0)) (6 * j + 1) (g.pi j)) (6 * j + 2) (g.vs j)) (6 * j + 3) (g.cp j)) (6 * j + 4) (g.sc j)) (6 * j + 5) (g.wt j)
def cpA (f src : Nat → Int32) : Nat → Nat → Int32
  | 0 => f
  | j + 1 => upd (cpA f src j) j (src j)
def cpB (f src : Nat → Int32) : Nat → Nat → Int32
  | 0 => f
  | j + 1 => upd (cpB f src j) j (zb (src j))
def cpL (f src : Nat → Int64) : Nat → Nat → Int64
  | 0 => f
  | j + 1 => vp_updL (cpL f src j) j (src j)
def cqA (f : Nat → Int32) (a : Nat) (src : Nat → Int32) (b : Nat) : Nat → Nat → Int32
  | 0 => f
  | j + 1 => upd (cqA f a src b j) (a + j) (src (b + j))
def cqB (f : Nat → Int32) (a : Nat) (src : Nat → Int32) (b : Nat) : Nat → Nat → Int32
  | 0 => f
  | j + 1 => upd (cqB f a src b j) (a + j) (zb (src (b + j)))
def cqL (f : Nat → Int64) (a : Nat) (src : Nat → Int64) (b : Nat) : Nat → Nat → Int64
  | 0 => f
  | j + 1 => vp_updL (cqL f a src b j) (a + j) (src (b + j))
def kpG (g : PG) (ng : Nat) (o : OG) : OG := ⟨kpI g ng o.oI 4, cpB o.oA g.aw 4, cpL o.oW g.nw 4, cpA o.oT g.ty 16, cpA o.oS g.sp 16, (cpL o.z.1 g.z.1 24, cpA o.z.2.1 g.z.2.1 24, cpB o.z.2.2.1 g.z.2.2.1 24, cpL o.z.2.2.2 g.z.2.2.2 24)⟩
def asB (g : PG) (o : OG) (k d : Nat) : PG := ⟨g.nu, g.pi, upd g.vs k (o.oI (6 * d + 2)), upd g.cp k (o.oI (6 * d + 3)), upd g.sc k (o.oI (6 * d + 4)), upd g.aw k (zb (o.oA d)), vp_updL g.nw k (o.oW d), upd g.wt k (o.oI (6 * d + 5)), cqA g.ty (4 * k) o.oT (4 * d) 4, cqA g.sp (4 * k) o.oS (4 * d) 4, (cqL g.z.1 (6 * k) o.z.1 (6 * d) 6, cqA g.z.2.1 (6 * k) o.z.2.1 (6 * d) 6, cqB g.z.2.2.1 (6 * k) o.z.2.2.1 (6 * d) 6, cqL g.z.2.2.2 (6 * k) o.z.2.2.2 (6 * d) 6)⟩
def lsG (g : PG) (n : Nat) (a b : Int32) : PG := ⟨upd g.nu n a, upd g.pi n b, upd g.vs n (-1), g.cp, upd g.sc n 0, upd g.aw n (zb 0), vp_updL g.nw n (-1), upd g.wt n 0, g.ty, g.sp, g.z⟩
def odG (o : OG) (a b : Int32) : Nat → Nat
  | 0 => 4
  | m + 1 => if o.oI (6 * (4 - (m + 1))) = a ∧ o.oI (6 * (4 - (m + 1)) + 1) = b then 4 - (m + 1) else odG o a b m
theorem odG_at {o : OG} {a b : Int32} {j : Nat} (h : j < 4) : odG o a b (4 - j) = if o.oI (6 * j) = a ∧ o.oI (6 * j + 1) = b then j else odG o a b (4 - (j + 1)) := by
  rw [show 4 - j = (4 - (j + 1)) + 1 by omega, odG, show 4 - (4 - (j + 1) + 1) = j by omega]
def nuV (se : Nat → Int32) (i : Nat) : Int32 := (se i <<< ((8 : Int32) &&& 31)) ||| se (i + 1)
def piV (se : Nat → Int32) (i : Nat) : Int32 := ((se (i + 2) &&& 31) <<< ((8 : Int32) &&& 31)) ||| se (i + 3)
def vsV (se : Nat → Int32) : Int32 := (se 5 >>> ((1 : Int32) &&& 31)) &&& 31
def liS (se : Nat → Int32) (o : OG) (i : Nat) (y : Nat × PG) : Nat × PG := if nuV se i = 0 ∨ 4 ≤ y.1 then y else (y.1 + 1, if odG o (nuV se i) (piV se i) 4 < 4 then asB (lsG y.2 y.1 (nuV se i) (piV se i)) o y.1 (odG o (nuV se i) (piV se i) 4) else lsG y.2 y.1 (nuV se i) (piV se i))
def liU (se : Nat → Int32) (o : OG) (y : Nat × PG) : Nat → Nat × PG
  | 0 => y
  | j + 1 => liS se o (8 + 4 * j) (liU se o y j)

set_option maxHeartbeats 4000000 in
set_option maxRecDepth 100000 in
theorem c_Mo_keepOld (l : Launch) (D : va_G) (sz : Nat) (cI : ClassId) (h : Nat) (r : Nat → Nat) (th si le lv pn pl rs : Int32) (cJ cZ : ClassId) (ng : Nat) (g : PG) (o : OG) (hng : ng ≤ 4) : Met l y_Mo_keepOld [Cond.code y_Mo_keepOld b_Mo_keepOld 2 none] ({ frames := 0, cells := 0, slots := 0, locals := 0 }) (zM [.ref h] D [(h, .inr (13, mO r th si le lv (nI ng) pn pl rs)), (r 20, .inl (cI, 4, .inl g.nu)), (r 21, .inl (cI, 4, .inl g.pi)), (r 22, .inl (cI, 4, .inl g.vs)), (r 23, .inl (cI, 4, .inl g.cp)), (r 24, .inl (cI, 4, .inl g.sc)), (r 25, .inl (cZ, 4, .inl g.aw)), (r 26, .inl (cJ, 4, .inr (.inl g.nw))), (r 27, .inl (cI, 4, .inl g.wt)), (r 28, .inl (cI, 16, .inl g.ty)), (r 29, .inl (cI, 16, .inl g.sp)), (r 30, .inl (cJ, 24, .inr (.inl g.z.1))), (r 31, .inl (cI, 24, .inl g.z.2.1)), (r 32, .inl (cZ, 24, .inl g.z.2.2.1)), (r 33, .inl (cJ, 24, .inr (.inl g.z.2.2.2))), (r 34, .inl (cI, 24, .inl o.oI)), (r 35, .inl (cZ, 4, .inl o.oA)), (r 36, .inl (cJ, 4, .inr (.inl o.oW))), (r 37, .inl (cI, 16, .inl o.oT)), (r 38, .inl (cI, 16, .inl o.oS)), (r 39, .inl (cJ, 24, .inr (.inl o.z.1))), (r 40, .inl (cI, 24, .inl o.z.2.1)), (r 41, .inl (cZ, 24, .inl o.z.2.2.1)), (r 42, .inl (cJ, 24, .inr (.inl o.z.2.2.2)))] [(cI, .int), (cJ, .long), (cZ, .boolean)] sz) (va_Qv (fun (_ : Unit) => True) (fun (_u : Unit) t => zW D (va_A [(h, .inr (13, mO r th si le lv (nI ng) pn pl rs)), (r 20, .inl (cI, 4, .inl g.nu)), (r 21, .inl (cI, 4, .inl g.pi)), (r 22, .inl (cI, 4, .inl g.vs)), (r 23, .inl (cI, 4, .inl g.cp)), (r 24, .inl (cI, 4, .inl g.sc)), (r 25, .inl (cZ, 4, .inl g.aw)), (r 26, .inl (cJ, 4, .inr (.inl g.nw))), (r 27, .inl (cI, 4, .inl g.wt)), (r 28, .inl (cI, 16, .inl g.ty)), (r 29, .inl (cI, 16, .inl g.sp)), (r 30, .inl (cJ, 24, .inr (.inl g.z.1))), (r 31, .inl (cI, 24, .inl g.z.2.1)), (r 32, .inl (cZ, 24, .inl g.z.2.2.1)), (r 33, .inl (cJ, 24, .inr (.inl g.z.2.2.2))), (r 34, .inl (cI, 24, .inl o.oI)), (r 35, .inl (cZ, 4, .inl o.oA)), (r 36, .inl (cJ, 4, .inr (.inl o.oW))), (r 37, .inl (cI, 16, .inl o.oT)), (r 38, .inl (cI, 16, .inl o.oS)), (r 39, .inl (cJ, 24, .inr (.inl o.z.1))), (r 40, .inl (cI, 24, .inl o.z.2.1)), (r 41, .inl (cZ, 24, .inl o.z.2.2.1)), (r 42, .inl (cJ, 24, .inr (.inl o.z.2.2.2)))] sz) [(h, .inr (13, mO r th si le lv (nI ng) pn pl rs)), (r 20, .inl (cI, 4, .inl g.nu)), (r 21, .inl (cI, 4, .inl g.pi)), (r 22, .inl (cI, 4, .inl g.vs)), (r 23, .inl (cI, 4, .inl g.cp)), (r 24, .inl (cI, 4, .inl g.sc)), (r 25, .inl (cZ, 4, .inl g.aw)), (r 26, .inl (cJ, 4, .inr (.inl g.nw))), (r 27, .inl (cI, 4, .inl g.wt)), (r 28, .inl (cI, 16, .inl g.ty)), (r 29, .inl (cI, 16, .inl g.sp)), (r 30, .inl (cJ, 24, .inr (.inl g.z.1))), (r 31, .inl (cI, 24, .inl g.z.2.1)), (r 32, .inl (cZ, 24, .inl g.z.2.2.1)), (r 33, .inl (cJ, 24, .inr (.inl g.z.2.2.2))), (r 34, .inl (cI, 24, .inl ((kpG g ng o).oI))), (r 35, .inl (cZ, 4, .inl ((kpG g ng o).oA))), (r 36, .inl (cJ, 4, .inr (.inl ((kpG g ng o).oW)))), (r 37, .inl (cI, 16, .inl ((kpG g ng o).oT))), (r 38, .inl (cI, 16, .inl ((kpG g ng o).oS))), (r 39, .inl (cJ, 24, .inr (.inl ((kpG g ng o).z.1)))), (r 40, .inl (cI, 24, .inl ((kpG g ng o).z.2.1))), (r 41, .inl (cZ, 24, .inl ((kpG g ng o).z.2.2.1))), (r 42, .inl (cJ, 24, .inr (.inl ((kpG g ng o).z.2.2.2))))] [(cI, .int), (cJ, .long), (cZ, .boolean)] t) (va_A [(h, .inr (13, mO r th si le lv (nI ng) pn pl rs)), (r 20, .inl (cI, 4, .inl g.nu)), (r 21, .inl (cI, 4, .inl g.pi)), (r 22, .inl (cI, 4, .inl g.vs)), (r 23, .inl (cI, 4, .inl g.cp)), (r 24, .inl (cI, 4, .inl g.sc)), (r 25, .inl (cZ, 4, .inl g.aw)), (r 26, .inl (cJ, 4, .inr (.inl g.nw))), (r 27, .inl (cI, 4, .inl g.wt)), (r 28, .inl (cI, 16, .inl g.ty)), (r 29, .inl (cI, 16, .inl g.sp)), (r 30, .inl (cJ, 24, .inr (.inl g.z.1))), (r 31, .inl (cI, 24, .inl g.z.2.1)), (r 32, .inl (cZ, 24, .inl g.z.2.2.1)), (r 33, .inl (cJ, 24, .inr (.inl g.z.2.2.2))), (r 34, .inl (cI, 24, .inl o.oI)), (r 35, .inl (cZ, 4, .inl o.oA)), (r 36, .inl (cJ, 4, .inr (.inl o.oW))), (r 37, .inl (cI, 16, .inl o.oT)), (r 38, .inl (cI, 16, .inl o.oS)), (r 39, .inl (cJ, 24, .inr (.inl o.z.1))), (r 40, .inl (cI, 24, .inl o.z.2.1)), (r 41, .inl (cZ, 24, .inl o.z.2.2.1)), (r 42, .inl (cJ, 24, .inr (.inl o.z.2.2.2)))] sz)) 0 0 (va_A [(h, .inr (13, mO r th si le lv (nI ng) pn pl rs)), (r 20, .inl (cI, 4, .inl g.nu)), (r 21, .inl (cI, 4, .inl g.pi)), (r 22, .inl (cI, 4, .inl g.vs)), (r 23, .inl (cI, 4, .inl g.cp)), (r 24, .inl (cI, 4, .inl g.sc)), (r 25, .inl (cZ, 4, .inl g.aw)), (r 26, .inl (cJ, 4, .inr (.inl g.nw))), (r 27, .inl (cI, 4, .inl g.wt)), (r 28, .inl (cI, 16, .inl g.ty)), (r 29, .inl (cI, 16, .inl g.sp)), (r 30, .inl (cJ, 24, .inr (.inl g.z.1))), (r 31, .inl (cI, 24, .inl g.z.2.1)), (r 32, .inl (cZ, 24, .inl g.z.2.2.1)), (r 33, .inl (cJ, 24, .inr (.inl g.z.2.2.2))), (r 34, .inl (cI, 24, .inl o.oI)), (r 35, .inl (cZ, 4, .inl o.oA)), (r 36, .inl (cJ, 4, .inr (.inl o.oW))), (r 37, .inl (cI, 16, .inl o.oT)), (r 38, .inl (cI, 16, .inl o.oS)), (r 39, .inl (cJ, 24, .inr (.inl o.z.1))), (r 40, .inl (cI, 24, .inl o.z.2.1)), (r 41, .inl (cZ, 24, .inl o.z.2.2.1)), (r 42, .inl (cJ, 24, .inr (.inl o.z.2.2.2)))] sz) := by
  refine Met.ofW (cc := b_Mo_keepOld) (maxL := 2) (ret := none) (by decide) rfl ?_
  intro p e s m args below meth cd s₁ Bd hml hv
  obtain ⟨rfl, hsz, hP, hK, hN, hD0⟩ := hv
  have hx := Bd.exec
  have hb := Bd.bytes
  have hr := Bd.returns
  have hts := hN.use (a := ([.ref h]).toArray)
  have hown : s.vm.findClass R_Mo = some m.cls := findClass_of_methodNamed Bd.named
  have hlocks := Bd.notSynchronized
  subst hsz
  have hD := hD0.self (sz := s.heap.size)
  clear hD0
  have hA : ∀ q : Nat, s.heap.size ≤ q → va_A [(h, .inr (13, mO r th si le lv (nI ng) pn pl rs)), (r 20, .inl (cI, 4, .inl g.nu)), (r 21, .inl (cI, 4, .inl g.pi)), (r 22, .inl (cI, 4, .inl g.vs)), (r 23, .inl (cI, 4, .inl g.cp)), (r 24, .inl (cI, 4, .inl g.sc)), (r 25, .inl (cZ, 4, .inl g.aw)), (r 26, .inl (cJ, 4, .inr (.inl g.nw))), (r 27, .inl (cI, 4, .inl g.wt)), (r 28, .inl (cI, 16, .inl g.ty)), (r 29, .inl (cI, 16, .inl g.sp)), (r 30, .inl (cJ, 24, .inr (.inl g.z.1))), (r 31, .inl (cI, 24, .inl g.z.2.1)), (r 32, .inl (cZ, 24, .inl g.z.2.2.1)), (r 33, .inl (cJ, 24, .inr (.inl g.z.2.2.2))), (r 34, .inl (cI, 24, .inl o.oI)), (r 35, .inl (cZ, 4, .inl o.oA)), (r 36, .inl (cJ, 4, .inr (.inl o.oW))), (r 37, .inl (cI, 16, .inl o.oT)), (r 38, .inl (cI, 16, .inl o.oS)), (r 39, .inl (cJ, 24, .inr (.inl o.z.1))), (r 40, .inl (cI, 24, .inl o.z.2.1)), (r 41, .inl (cZ, 24, .inl o.z.2.2.1)), (r 42, .inl (cJ, 24, .inr (.inl o.z.2.2.2)))] s.heap.size q := fun q h => Or.inr h
  have hS : va_S (va_A [(h, .inr (13, mO r th si le lv (nI ng) pn pl rs)), (r 20, .inl (cI, 4, .inl g.nu)), (r 21, .inl (cI, 4, .inl g.pi)), (r 22, .inl (cI, 4, .inl g.vs)), (r 23, .inl (cI, 4, .inl g.cp)), (r 24, .inl (cI, 4, .inl g.sc)), (r 25, .inl (cZ, 4, .inl g.aw)), (r 26, .inl (cJ, 4, .inr (.inl g.nw))), (r 27, .inl (cI, 4, .inl g.wt)), (r 28, .inl (cI, 16, .inl g.ty)), (r 29, .inl (cI, 16, .inl g.sp)), (r 30, .inl (cJ, 24, .inr (.inl g.z.1))), (r 31, .inl (cI, 24, .inl g.z.2.1)), (r 32, .inl (cZ, 24, .inl g.z.2.2.1)), (r 33, .inl (cJ, 24, .inr (.inl g.z.2.2.2))), (r 34, .inl (cI, 24, .inl o.oI)), (r 35, .inl (cZ, 4, .inl o.oA)), (r 36, .inl (cJ, 4, .inr (.inl o.oW))), (r 37, .inl (cI, 16, .inl o.oT)), (r 38, .inl (cI, 16, .inl o.oS)), (r 39, .inl (cJ, 24, .inr (.inl o.z.1))), (r 40, .inl (cI, 24, .inl o.z.2.1)), (r 41, .inl (cZ, 24, .inl o.z.2.2.1)), (r 42, .inl (cJ, 24, .inr (.inl o.z.2.2.2)))] s.heap.size) s.heap s.heap [] := va_S.rf
  generalize hAe : va_A [(h, .inr (13, mO r th si le lv (nI ng) pn pl rs)), (r 20, .inl (cI, 4, .inl g.nu)), (r 21, .inl (cI, 4, .inl g.pi)), (r 22, .inl (cI, 4, .inl g.vs)), (r 23, .inl (cI, 4, .inl g.cp)), (r 24, .inl (cI, 4, .inl g.sc)), (r 25, .inl (cZ, 4, .inl g.aw)), (r 26, .inl (cJ, 4, .inr (.inl g.nw))), (r 27, .inl (cI, 4, .inl g.wt)), (r 28, .inl (cI, 16, .inl g.ty)), (r 29, .inl (cI, 16, .inl g.sp)), (r 30, .inl (cJ, 24, .inr (.inl g.z.1))), (r 31, .inl (cI, 24, .inl g.z.2.1)), (r 32, .inl (cZ, 24, .inl g.z.2.2.1)), (r 33, .inl (cJ, 24, .inr (.inl g.z.2.2.2))), (r 34, .inl (cI, 24, .inl o.oI)), (r 35, .inl (cZ, 4, .inl o.oA)), (r 36, .inl (cJ, 4, .inr (.inl o.oW))), (r 37, .inl (cI, 16, .inl o.oT)), (r 38, .inl (cI, 16, .inl o.oS)), (r 39, .inl (cJ, 24, .inr (.inl o.z.1))), (r 40, .inl (cI, 24, .inl o.z.2.1)), (r 41, .inl (cZ, 24, .inl o.z.2.2.1)), (r 42, .inl (cJ, 24, .inr (.inl o.z.2.2.2)))] s.heap.size = A at hD hA hS ⊢
  have hP : va_P D classes [(h, .inr (13, mO r th si le lv (nI ng) pn pl rs)), (r 20, .inl (cI, 4, .inl g.nu)), (r 21, .inl (cI, 4, .inl g.pi)), (r 22, .inl (cI, 4, .inl g.vs)), (r 23, .inl (cI, 4, .inl g.cp)), (r 24, .inl (cI, 4, .inl g.sc)), (r 25, .inl (cZ, 4, .inl g.aw)), (r 26, .inl (cJ, 4, .inr (.inl g.nw))), (r 27, .inl (cI, 4, .inl g.wt)), (r 28, .inl (cI, 16, .inl g.ty)), (r 29, .inl (cI, 16, .inl g.sp)), (r 30, .inl (cJ, 24, .inr (.inl g.z.1))), (r 31, .inl (cI, 24, .inl g.z.2.1)), (r 32, .inl (cZ, 24, .inl g.z.2.2.1)), (r 33, .inl (cJ, 24, .inr (.inl g.z.2.2.2))), (r 34, .inl (cI, 24, .inl o.oI)), (r 35, .inl (cZ, 4, .inl o.oA)), (r 36, .inl (cJ, 4, .inr (.inl o.oW))), (r 37, .inl (cI, 16, .inl o.oT)), (r 38, .inl (cI, 16, .inl o.oS)), (r 39, .inl (cJ, 24, .inr (.inl o.z.1))), (r 40, .inl (cI, 24, .inl o.z.2.1)), (r 41, .inl (cZ, 24, .inl o.z.2.2.1)), (r 42, .inl (cJ, 24, .inr (.inl o.z.2.2.2)))] s.heap := hP
  have hl := lv_entry ([.ref h]) (n := 2) (Nat.le_of_ble_eq_true rfl)
  rw [lg_entry_eq]
  generalize (lg_sl ([.ref h]) ++ List.replicate (2 - (lg_sl ([.ref h])).length) Slot.unset).toArray = ls at hl ⊢
  have hl : lv_has ls 2 [(0, .ref h)] := hl
  refine lv_iconst (v := 0) hx hb d_Mo_keepOld_0 (by decide) ?_
  refine lv_istore_n (lv' := [(1, .int 0), (0, .ref h)]) hx hb d_Mo_keepOld_1 rfl hl (by decide) rfl (fun ls hl => ?_)
  have loop2 : ∀ (N : Nat) (j : Nat) (H : Heap) (locs : List Loc) (ls : Array Slot) (hm : 4 - j < N) (hj : j ≤ 4) (hl : lv_has ls 2 [(0, .ref h), (1, .int (nI j))]) (hP : va_P D classes [(h, .inr (13, mO r th si le lv (nI ng) pn pl rs)), (r 20, .inl (cI, 4, .inl g.nu)), (r 21, .inl (cI, 4, .inl g.pi)), (r 22, .inl (cI, 4, .inl g.vs)), (r 23, .inl (cI, 4, .inl g.cp)), (r 24, .inl (cI, 4, .inl g.sc)), (r 25, .inl (cZ, 4, .inl g.aw)), (r 26, .inl (cJ, 4, .inr (.inl g.nw))), (r 27, .inl (cI, 4, .inl g.wt)), (r 28, .inl (cI, 16, .inl g.ty)), (r 29, .inl (cI, 16, .inl g.sp)), (r 30, .inl (cJ, 24, .inr (.inl g.z.1))), (r 31, .inl (cI, 24, .inl g.z.2.1)), (r 32, .inl (cZ, 24, .inl g.z.2.2.1)), (r 33, .inl (cJ, 24, .inr (.inl g.z.2.2.2))), (r 34, .inl (cI, 24, .inl (kpI g ng o.oI j))), (r 35, .inl (cZ, 4, .inl (cpB o.oA g.aw j))), (r 36, .inl (cJ, 4, .inr (.inl (cpL o.oW g.nw j)))), (r 37, .inl (cI, 16, .inl (cpA o.oT g.ty 0))), (r 38, .inl (cI, 16, .inl (cpA o.oS g.sp 0))), (r 39, .inl (cJ, 24, .inr (.inl (cpL o.z.1 g.z.1 0)))), (r 40, .inl (cI, 24, .inl (cpA o.z.2.1 g.z.2.1 0))), (r 41, .inl (cZ, 24, .inl (cpB o.z.2.2.1 g.z.2.2.1 0))), (r 42, .inl (cJ, 24, .inr (.inl (cpL o.z.2.2.2 g.z.2.2.2 0))))] H) (hD : va_D A [(h, .inr (13, mO r th si le lv (nI ng) pn pl rs)), (r 20, .inl (cI, 4, .inl g.nu)), (r 21, .inl (cI, 4, .inl g.pi)), (r 22, .inl (cI, 4, .inl g.vs)), (r 23, .inl (cI, 4, .inl g.cp)), (r 24, .inl (cI, 4, .inl g.sc)), (r 25, .inl (cZ, 4, .inl g.aw)), (r 26, .inl (cJ, 4, .inr (.inl g.nw))), (r 27, .inl (cI, 4, .inl g.wt)), (r 28, .inl (cI, 16, .inl g.ty)), (r 29, .inl (cI, 16, .inl g.sp)), (r 30, .inl (cJ, 24, .inr (.inl g.z.1))), (r 31, .inl (cI, 24, .inl g.z.2.1)), (r 32, .inl (cZ, 24, .inl g.z.2.2.1)), (r 33, .inl (cJ, 24, .inr (.inl g.z.2.2.2))), (r 34, .inl (cI, 24, .inl (kpI g ng o.oI j))), (r 35, .inl (cZ, 4, .inl (cpB o.oA g.aw j))), (r 36, .inl (cJ, 4, .inr (.inl (cpL o.oW g.nw j)))), (r 37, .inl (cI, 16, .inl (cpA o.oT g.ty 0))), (r 38, .inl (cI, 16, .inl (cpA o.oS g.sp 0))), (r 39, .inl (cJ, 24, .inr (.inl (cpL o.z.1 g.z.1 0)))), (r 40, .inl (cI, 24, .inl (cpA o.z.2.1 g.z.2.1 0))), (r 41, .inl (cZ, 24, .inl (cpB o.z.2.2.1 g.z.2.2.1 0))), (r 42, .inl (cJ, 24, .inr (.inl (cpL o.z.2.2.2 g.z.2.2.2 0))))]) (hS : va_S A s.heap H locs), W p l e ({ frames := 0, cells := 0, slots := 0, locals := 0 }) s m ([.ref h]).toArray below meth cd H locs 0 0 (MQ below (va_Qv (fun (_ : Unit) => True) (fun (_u : Unit) t => zW D (A) [(h, .inr (13, mO r th si le lv (nI ng) pn pl rs)), (r 20, .inl (cI, 4, .inl g.nu)), (r 21, .inl (cI, 4, .inl g.pi)), (r 22, .inl (cI, 4, .inl g.vs)), (r 23, .inl (cI, 4, .inl g.cp)), (r 24, .inl (cI, 4, .inl g.sc)), (r 25, .inl (cZ, 4, .inl g.aw)), (r 26, .inl (cJ, 4, .inr (.inl g.nw))), (r 27, .inl (cI, 4, .inl g.wt)), (r 28, .inl (cI, 16, .inl g.ty)), (r 29, .inl (cI, 16, .inl g.sp)), (r 30, .inl (cJ, 24, .inr (.inl g.z.1))), (r 31, .inl (cI, 24, .inl g.z.2.1)), (r 32, .inl (cZ, 24, .inl g.z.2.2.1)), (r 33, .inl (cJ, 24, .inr (.inl g.z.2.2.2))), (r 34, .inl (cI, 24, .inl ((kpG g ng o).oI))), (r 35, .inl (cZ, 4, .inl ((kpG g ng o).oA))), (r 36, .inl (cJ, 4, .inr (.inl ((kpG g ng o).oW)))), (r 37, .inl (cI, 16, .inl ((kpG g ng o).oT))), (r 38, .inl (cI, 16, .inl ((kpG g ng o).oS))), (r 39, .inl (cJ, 24, .inr (.inl ((kpG g ng o).z.1)))), (r 40, .inl (cI, 24, .inl ((kpG g ng o).z.2.1))), (r 41, .inl (cZ, 24, .inl ((kpG g ng o).z.2.2.1))), (r 42, .inl (cJ, 24, .inr (.inl ((kpG g ng o).z.2.2.2))))] [(cI, .int), (cJ, .long), (cZ, .boolean)] t) (A)) ([.ref h]).toArray s 0 0 (A)) (F0 m 2 ls []) := by
    intro N2
    induction N2 with
    | zero => intro j H locs ls hm hj hl hP hD hS; exact absurd hm (Nat.not_lt_zero _)
    | succ N2 ih2 =>
      intro j H locs ls hm hj hl hP hD hS
      refine lv_iload_n hx hb d_Mo_keepOld_2 rfl (lv_at hl 1 rfl) ?_
      refine lv_iconst (v := 4) hx hb d_Mo_keepOld_3 (by decide) ?_
      refine lv_icmp_ge (tgt := 149) hx hb d_Mo_keepOld_4 rfl (fun h4 => ?_) (fun h4 => ?_)
      · have h4 := (nI_leI (a := 4) (by omega) (by omega)).mp h4
        obtain rfl : j = 4 := by omega
        refine lv_iconst (v := 0) hx hb d_Mo_keepOld_149 (by decide) ?_
        refine lv_istore_n (lv' := [(1, .int 0), (0, .ref h)]) hx hb d_Mo_keepOld_150 rfl hl (by decide) rfl (fun ls hl => ?_)
        have loop151 : ∀ (N : Nat) (j2 : Nat) (H : Heap) (locs : List Loc) (ls : Array Slot) (hm : 16 - j2 < N) (hj : j2 ≤ 16) (hl : lv_has ls 2 [(0, .ref h), (1, .int (nI j2))]) (hP : va_P D classes [(h, .inr (13, mO r th si le lv (nI ng) pn pl rs)), (r 20, .inl (cI, 4, .inl g.nu)), (r 21, .inl (cI, 4, .inl g.pi)), (r 22, .inl (cI, 4, .inl g.vs)), (r 23, .inl (cI, 4, .inl g.cp)), (r 24, .inl (cI, 4, .inl g.sc)), (r 25, .inl (cZ, 4, .inl g.aw)), (r 26, .inl (cJ, 4, .inr (.inl g.nw))), (r 27, .inl (cI, 4, .inl g.wt)), (r 28, .inl (cI, 16, .inl g.ty)), (r 29, .inl (cI, 16, .inl g.sp)), (r 30, .inl (cJ, 24, .inr (.inl g.z.1))), (r 31, .inl (cI, 24, .inl g.z.2.1)), (r 32, .inl (cZ, 24, .inl g.z.2.2.1)), (r 33, .inl (cJ, 24, .inr (.inl g.z.2.2.2))), (r 34, .inl (cI, 24, .inl (kpI g ng o.oI 4))), (r 35, .inl (cZ, 4, .inl (cpB o.oA g.aw 4))), (r 36, .inl (cJ, 4, .inr (.inl (cpL o.oW g.nw 4)))), (r 37, .inl (cI, 16, .inl (cpA o.oT g.ty j2))), (r 38, .inl (cI, 16, .inl (cpA o.oS g.sp j2))), (r 39, .inl (cJ, 24, .inr (.inl (cpL o.z.1 g.z.1 0)))), (r 40, .inl (cI, 24, .inl (cpA o.z.2.1 g.z.2.1 0))), (r 41, .inl (cZ, 24, .inl (cpB o.z.2.2.1 g.z.2.2.1 0))), (r 42, .inl (cJ, 24, .inr (.inl (cpL o.z.2.2.2 g.z.2.2.2 0))))] H) (hD : va_D A [(h, .inr (13, mO r th si le lv (nI ng) pn pl rs)), (r 20, .inl (cI, 4, .inl g.nu)), (r 21, .inl (cI, 4, .inl g.pi)), (r 22, .inl (cI, 4, .inl g.vs)), (r 23, .inl (cI, 4, .inl g.cp)), (r 24, .inl (cI, 4, .inl g.sc)), (r 25, .inl (cZ, 4, .inl g.aw)), (r 26, .inl (cJ, 4, .inr (.inl g.nw))), (r 27, .inl (cI, 4, .inl g.wt)), (r 28, .inl (cI, 16, .inl g.ty)), (r 29, .inl (cI, 16, .inl g.sp)), (r 30, .inl (cJ, 24, .inr (.inl g.z.1))), (r 31, .inl (cI, 24, .inl g.z.2.1)), (r 32, .inl (cZ, 24, .inl g.z.2.2.1)), (r 33, .inl (cJ, 24, .inr (.inl g.z.2.2.2))), (r 34, .inl (cI, 24, .inl (kpI g ng o.oI 4))), (r 35, .inl (cZ, 4, .inl (cpB o.oA g.aw 4))), (r 36, .inl (cJ, 4, .inr (.inl (cpL o.oW g.nw 4)))), (r 37, .inl (cI, 16, .inl (cpA o.oT g.ty j2))), (r 38, .inl (cI, 16, .inl (cpA o.oS g.sp j2))), (r 39, .inl (cJ, 24, .inr (.inl (cpL o.z.1 g.z.1 0)))), (r 40, .inl (cI, 24, .inl (cpA o.z.2.1 g.z.2.1 0))), (r 41, .inl (cZ, 24, .inl (cpB o.z.2.2.1 g.z.2.2.1 0))), (r 42, .inl (cJ, 24, .inr (.inl (cpL o.z.2.2.2 g.z.2.2.2 0))))]) (hS : va_S A s.heap H locs), W p l e ({ frames := 0, cells := 0, slots := 0, locals := 0 }) s m ([.ref h]).toArray below meth cd H locs 0 0 (MQ below (va_Qv (fun (_ : Unit) => True) (fun (_u : Unit) t => zW D (A) [(h, .inr (13, mO r th si le lv (nI ng) pn pl rs)), (r 20, .inl (cI, 4, .inl g.nu)), (r 21, .inl (cI, 4, .inl g.pi)), (r 22, .inl (cI, 4, .inl g.vs)), (r 23, .inl (cI, 4, .inl g.cp)), (r 24, .inl (cI, 4, .inl g.sc)), (r 25, .inl (cZ, 4, .inl g.aw)), (r 26, .inl (cJ, 4, .inr (.inl g.nw))), (r 27, .inl (cI, 4, .inl g.wt)), (r 28, .inl (cI, 16, .inl g.ty)), (r 29, .inl (cI, 16, .inl g.sp)), (r 30, .inl (cJ, 24, .inr (.inl g.z.1))), (r 31, .inl (cI, 24, .inl g.z.2.1)), (r 32, .inl (cZ, 24, .inl g.z.2.2.1)), (r 33, .inl (cJ, 24, .inr (.inl g.z.2.2.2))), (r 34, .inl (cI, 24, .inl ((kpG g ng o).oI))), (r 35, .inl (cZ, 4, .inl ((kpG g ng o).oA))), (r 36, .inl (cJ, 4, .inr (.inl ((kpG g ng o).oW)))), (r 37, .inl (cI, 16, .inl ((kpG g ng o).oT))), (r 38, .inl (cI, 16, .inl ((kpG g ng o).oS))), (r 39, .inl (cJ, 24, .inr (.inl ((kpG g ng o).z.1)))), (r 40, .inl (cI, 24, .inl ((kpG g ng o).z.2.1))), (r 41, .inl (cZ, 24, .inl ((kpG g ng o).z.2.2.1))), (r 42, .inl (cJ, 24, .inr (.inl ((kpG g ng o).z.2.2.2))))] [(cI, .int), (cJ, .long), (cZ, .boolean)] t) (A)) ([.ref h]).toArray s 0 0 (A)) (F0 m 151 ls []) := by
          intro N151
          induction N151 with
          | zero => intro j2 H locs ls hm hj hl hP hD hS; exact absurd hm (Nat.not_lt_zero _)
          | succ N151 ih151 =>
            intro j2 H locs ls hm hj hl hP hD hS
            refine lv_iload_n hx hb d_Mo_keepOld_151 rfl (lv_at hl 1 rfl) ?_
            refine lv_bipush (v := 16) hx hb d_Mo_keepOld_152 (by decide) ?_
            refine lv_icmp_ge (tgt := 187) hx hb d_Mo_keepOld_154 rfl (fun h154 => ?_) (fun h154 => ?_)
            · have h154 := (nI_leI (a := 16) (by omega) (by omega)).mp h154
              obtain rfl : j2 = 16 := by omega
              refine lv_iconst (v := 0) hx hb d_Mo_keepOld_187 (by decide) ?_
              refine lv_istore_n (lv' := [(1, .int 0), (0, .ref h)]) hx hb d_Mo_keepOld_188 rfl hl (by decide) rfl (fun ls hl => ?_)
              have loop189 : ∀ (N : Nat) (j3 : Nat) (H : Heap) (locs : List Loc) (ls : Array Slot) (hm : 24 - j3 < N) (hj : j3 ≤ 24) (hl : lv_has ls 2 [(0, .ref h), (1, .int (nI j3))]) (hP : va_P D classes [(h, .inr (13, mO r th si le lv (nI ng) pn pl rs)), (r 20, .inl (cI, 4, .inl g.nu)), (r 21, .inl (cI, 4, .inl g.pi)), (r 22, .inl (cI, 4, .inl g.vs)), (r 23, .inl (cI, 4, .inl g.cp)), (r 24, .inl (cI, 4, .inl g.sc)), (r 25, .inl (cZ, 4, .inl g.aw)), (r 26, .inl (cJ, 4, .inr (.inl g.nw))), (r 27, .inl (cI, 4, .inl g.wt)), (r 28, .inl (cI, 16, .inl g.ty)), (r 29, .inl (cI, 16, .inl g.sp)), (r 30, .inl (cJ, 24, .inr (.inl g.z.1))), (r 31, .inl (cI, 24, .inl g.z.2.1)), (r 32, .inl (cZ, 24, .inl g.z.2.2.1)), (r 33, .inl (cJ, 24, .inr (.inl g.z.2.2.2))), (r 34, .inl (cI, 24, .inl (kpI g ng o.oI 4))), (r 35, .inl (cZ, 4, .inl (cpB o.oA g.aw 4))), (r 36, .inl (cJ, 4, .inr (.inl (cpL o.oW g.nw 4)))), (r 37, .inl (cI, 16, .inl (cpA o.oT g.ty 16))), (r 38, .inl (cI, 16, .inl (cpA o.oS g.sp 16))), (r 39, .inl (cJ, 24, .inr (.inl (cpL o.z.1 g.z.1 j3)))), (r 40, .inl (cI, 24, .inl (cpA o.z.2.1 g.z.2.1 j3))), (r 41, .inl (cZ, 24, .inl (cpB o.z.2.2.1 g.z.2.2.1 j3))), (r 42, .inl (cJ, 24, .inr (.inl (cpL o.z.2.2.2 g.z.2.2.2 j3))))] H) (hD : va_D A [(h, .inr (13, mO r th si le lv (nI ng) pn pl rs)), (r 20, .inl (cI, 4, .inl g.nu)), (r 21, .inl (cI, 4, .inl g.pi)), (r 22, .inl (cI, 4, .inl g.vs)), (r 23, .inl (cI, 4, .inl g.cp)), (r 24, .inl (cI, 4, .inl g.sc)), (r 25, .inl (cZ, 4, .inl g.aw)), (r 26, .inl (cJ, 4, .inr (.inl g.nw))), (r 27, .inl (cI, 4, .inl g.wt)), (r 28, .inl (cI, 16, .inl g.ty)), (r 29, .inl (cI, 16, .inl g.sp)), (r 30, .inl (cJ, 24, .inr (.inl g.z.1))), (r 31, .inl (cI, 24, .inl g.z.2.1)), (r 32, .inl (cZ, 24, .inl g.z.2.2.1)), (r 33, .inl (cJ, 24, .inr (.inl g.z.2.2.2))), (r 34, .inl (cI, 24, .inl (kpI g ng o.oI 4))), (r 35, .inl (cZ, 4, .inl (cpB o.oA g.aw 4))), (r 36, .inl (cJ, 4, .inr (.inl (cpL o.oW g.nw 4)))), (r 37, .inl (cI, 16, .inl (cpA o.oT g.ty 16))), (r 38, .inl (cI, 16, .inl (cpA o.oS g.sp 16))), (r 39, .inl (cJ, 24, .inr (.inl (cpL o.z.1 g.z.1 j3)))), (r 40, .inl (cI, 24, .inl (cpA o.z.2.1 g.z.2.1 j3))), (r 41, .inl (cZ, 24, .inl (cpB o.z.2.2.1 g.z.2.2.1 j3))), (r 42, .inl (cJ, 24, .inr (.inl (cpL o.z.2.2.2 g.z.2.2.2 j3))))]) (hS : va_S A s.heap H locs), W p l e ({ frames := 0, cells := 0, slots := 0, locals := 0 }) s m ([.ref h]).toArray below meth cd H locs 0 0 (MQ below (va_Qv (fun (_ : Unit) => True) (fun (_u : Unit) t => zW D (A) [(h, .inr (13, mO r th si le lv (nI ng) pn pl rs)), (r 20, .inl (cI, 4, .inl g.nu)), (r 21, .inl (cI, 4, .inl g.pi)), (r 22, .inl (cI, 4, .inl g.vs)), (r 23, .inl (cI, 4, .inl g.cp)), (r 24, .inl (cI, 4, .inl g.sc)), (r 25, .inl (cZ, 4, .inl g.aw)), (r 26, .inl (cJ, 4, .inr (.inl g.nw))), (r 27, .inl (cI, 4, .inl g.wt)), (r 28, .inl (cI, 16, .inl g.ty)), (r 29, .inl (cI, 16, .inl g.sp)), (r 30, .inl (cJ, 24, .inr (.inl g.z.1))), (r 31, .inl (cI, 24, .inl g.z.2.1)), (r 32, .inl (cZ, 24, .inl g.z.2.2.1)), (r 33, .inl (cJ, 24, .inr (.inl g.z.2.2.2))), (r 34, .inl (cI, 24, .inl ((kpG g ng o).oI))), (r 35, .inl (cZ, 4, .inl ((kpG g ng o).oA))), (r 36, .inl (cJ, 4, .inr (.inl ((kpG g ng o).oW)))), (r 37, .inl (cI, 16, .inl ((kpG g ng o).oT))), (r 38, .inl (cI, 16, .inl ((kpG g ng o).oS))), (r 39, .inl (cJ, 24, .inr (.inl ((kpG g ng o).z.1)))), (r 40, .inl (cI, 24, .inl ((kpG g ng o).z.2.1))), (r 41, .inl (cZ, 24, .inl ((kpG g ng o).z.2.2.1))), (r 42, .inl (cJ, 24, .inr (.inl ((kpG g ng o).z.2.2.2))))] [(cI, .int), (cJ, .long), (cZ, .boolean)] t) (A)) ([.ref h]).toArray s 0 0 (A)) (F0 m 189 ls []) := by
                intro N189
                induction N189 with
                | zero => intro j3 H locs ls hm hj hl hP hD hS; exact absurd hm (Nat.not_lt_zero _)
                | succ N189 ih189 =>
                  intro j3 H locs ls hm hj hl hP hD hS
                  refine lv_iload_n hx hb d_Mo_keepOld_189 rfl (lv_at hl 1 rfl) ?_
                  refine lv_bipush (v := 24) hx hb d_Mo_keepOld_190 (by decide) ?_
                  refine lv_icmp_ge (tgt := 249) hx hb d_Mo_keepOld_192 rfl (fun h192 => ?_) (fun h192 => ?_)
                  · have h192 := (nI_leI (a := 24) (by omega) (by omega)).mp h192
                    obtain rfl : j3 = 24 := by omega
                    have hP9 := hP.sub (ws' := [(h, .inr (13, mO r th si le lv (nI ng) pn pl rs)), (r 20, .inl (cI, 4, .inl g.nu)), (r 21, .inl (cI, 4, .inl g.pi)), (r 22, .inl (cI, 4, .inl g.vs)), (r 23, .inl (cI, 4, .inl g.cp)), (r 24, .inl (cI, 4, .inl g.sc)), (r 25, .inl (cZ, 4, .inl g.aw)), (r 26, .inl (cJ, 4, .inr (.inl g.nw))), (r 27, .inl (cI, 4, .inl g.wt)), (r 28, .inl (cI, 16, .inl g.ty)), (r 29, .inl (cI, 16, .inl g.sp)), (r 30, .inl (cJ, 24, .inr (.inl g.z.1))), (r 31, .inl (cI, 24, .inl g.z.2.1)), (r 32, .inl (cZ, 24, .inl g.z.2.2.1)), (r 33, .inl (cJ, 24, .inr (.inl g.z.2.2.2))), (r 34, .inl (cI, 24, .inl (kpI g ng o.oI 4))), (r 35, .inl (cZ, 4, .inl (cpB o.oA g.aw 4))), (r 36, .inl (cJ, 4, .inr (.inl (cpL o.oW g.nw 4)))), (r 37, .inl (cI, 16, .inl (cpA o.oT g.ty 16))), (r 38, .inl (cI, 16, .inl (cpA o.oS g.sp 16))), (r 39, .inl (cJ, 24, .inr (.inl (cpL o.z.1 g.z.1 24)))), (r 40, .inl (cI, 24, .inl (cpA o.z.2.1 g.z.2.1 24))), (r 41, .inl (cZ, 24, .inl (cpB o.z.2.2.1 g.z.2.2.1 24))), (r 42, .inl (cJ, 24, .inr (.inl (cpL o.z.2.2.2 g.z.2.2.2 24))))]) [0, 1, 2, 3, 4, 5, 6, 7, 8, 9, 10, 11, 12, 13, 14, 15, 16, 17, 18, 19, 20, 21, 22, 23] rfl
                    have hD9 := hD.sub (ws' := [(h, .inr (13, mO r th si le lv (nI ng) pn pl rs)), (r 20, .inl (cI, 4, .inl g.nu)), (r 21, .inl (cI, 4, .inl g.pi)), (r 22, .inl (cI, 4, .inl g.vs)), (r 23, .inl (cI, 4, .inl g.cp)), (r 24, .inl (cI, 4, .inl g.sc)), (r 25, .inl (cZ, 4, .inl g.aw)), (r 26, .inl (cJ, 4, .inr (.inl g.nw))), (r 27, .inl (cI, 4, .inl g.wt)), (r 28, .inl (cI, 16, .inl g.ty)), (r 29, .inl (cI, 16, .inl g.sp)), (r 30, .inl (cJ, 24, .inr (.inl g.z.1))), (r 31, .inl (cI, 24, .inl g.z.2.1)), (r 32, .inl (cZ, 24, .inl g.z.2.2.1)), (r 33, .inl (cJ, 24, .inr (.inl g.z.2.2.2))), (r 34, .inl (cI, 24, .inl (kpI g ng o.oI 4))), (r 35, .inl (cZ, 4, .inl (cpB o.oA g.aw 4))), (r 36, .inl (cJ, 4, .inr (.inl (cpL o.oW g.nw 4)))), (r 37, .inl (cI, 16, .inl (cpA o.oT g.ty 16))), (r 38, .inl (cI, 16, .inl (cpA o.oS g.sp 16))), (r 39, .inl (cJ, 24, .inr (.inl (cpL o.z.1 g.z.1 24)))), (r 40, .inl (cI, 24, .inl (cpA o.z.2.1 g.z.2.1 24))), (r 41, .inl (cZ, 24, .inl (cpB o.z.2.2.1 g.z.2.2.1 24))), (r 42, .inl (cJ, 24, .inr (.inl (cpL o.z.2.2.2 g.z.2.2.2 24))))]) [0, 1, 2, 3, 4, 5, 6, 7, 8, 9, 10, 11, 12, 13, 14, 15, 16, 17, 18, 19, 20, 21, 22, 23] (by decide) rfl
                    have hK9 := hK.sub (tys' := [(cI, .int), (cJ, .long), (cZ, .boolean)]) [0, 1, 2] rfl
                    exact W.vret hx hb hr (fun t ht hW => ⟨⟨(), rfl, trivial, ⟨by rw [ht]; exact hP9, va_K.moved hW.alike hK9, hD9⟩⟩, hS.F ht⟩) hS.2.2 d_Mo_keepOld_249
                  · have h192 := mt (nI_leI (a := 24) (by omega) (by omega)).mpr h192
                    refine lv_aload_n hx hb d_Mo_keepOld_195 rfl (lv_at hl 0 rfl) ?_
                    refine va_get (D := D) (ci := 13) (v := .ref (r 39)) (C := R_Mo) (T := F_Mo) (N := 54) hx hb hts i_Mo hown hK hP 0 rfl rfl 39 (by decide) (hts _ wd_1127) (fun _ h9 => h9) rfl d_Mo_keepOld_196 ?_
                    refine lv_iload_n hx hb d_Mo_keepOld_199 rfl (lv_at hl 1 rfl) ?_
                    refine lv_aload_n hx hb d_Mo_keepOld_200 rfl (lv_at hl 0 rfl) ?_
                    refine va_get (D := D) (ci := 13) (v := .ref (r 30)) (C := R_Mo) (T := F_Mo) (N := 54) hx hb hts i_Mo hown hK hP 0 rfl rfl 30 (by decide) (hts _ wd_1118) (fun _ h9 => h9) rfl d_Mo_keepOld_201 ?_
                    refine lv_iload_n hx hb d_Mo_keepOld_204 rfl (lv_at hl 1 rfl) ?_
                    refine z_lald hx hb hK hP 11 1 rfl rfl j3 rfl (by omega) (by omega) d_Mo_keepOld_205 ?_
                    refine z_last hx hb hK hP hD hS 20 1 rfl rfl j3 rfl (by omega) (by omega) d_Mo_keepOld_206 (fun H locs hP hD hS => ?_)
                    have hP : va_P D classes [(h, .inr (13, mO r th si le lv (nI ng) pn pl rs)), (r 20, .inl (cI, 4, .inl g.nu)), (r 21, .inl (cI, 4, .inl g.pi)), (r 22, .inl (cI, 4, .inl g.vs)), (r 23, .inl (cI, 4, .inl g.cp)), (r 24, .inl (cI, 4, .inl g.sc)), (r 25, .inl (cZ, 4, .inl g.aw)), (r 26, .inl (cJ, 4, .inr (.inl g.nw))), (r 27, .inl (cI, 4, .inl g.wt)), (r 28, .inl (cI, 16, .inl g.ty)), (r 29, .inl (cI, 16, .inl g.sp)), (r 30, .inl (cJ, 24, .inr (.inl g.z.1))), (r 31, .inl (cI, 24, .inl g.z.2.1)), (r 32, .inl (cZ, 24, .inl g.z.2.2.1)), (r 33, .inl (cJ, 24, .inr (.inl g.z.2.2.2))), (r 34, .inl (cI, 24, .inl (kpI g ng o.oI 4))), (r 35, .inl (cZ, 4, .inl (cpB o.oA g.aw 4))), (r 36, .inl (cJ, 4, .inr (.inl (cpL o.oW g.nw 4)))), (r 37, .inl (cI, 16, .inl (cpA o.oT g.ty 16))), (r 38, .inl (cI, 16, .inl (cpA o.oS g.sp 16))), (r 39, .inl (cJ, 24, .inr (.inl (vp_updL (cpL o.z.1 g.z.1 j3) j3 (g.z.1 j3))))), (r 40, .inl (cI, 24, .inl (cpA o.z.2.1 g.z.2.1 j3))), (r 41, .inl (cZ, 24, .inl (cpB o.z.2.2.1 g.z.2.2.1 j3))), (r 42, .inl (cJ, 24, .inr (.inl (cpL o.z.2.2.2 g.z.2.2.2 j3))))] H := hP
                    have hD : va_D A [(h, .inr (13, mO r th si le lv (nI ng) pn pl rs)), (r 20, .inl (cI, 4, .inl g.nu)), (r 21, .inl (cI, 4, .inl g.pi)), (r 22, .inl (cI, 4, .inl g.vs)), (r 23, .inl (cI, 4, .inl g.cp)), (r 24, .inl (cI, 4, .inl g.sc)), (r 25, .inl (cZ, 4, .inl g.aw)), (r 26, .inl (cJ, 4, .inr (.inl g.nw))), (r 27, .inl (cI, 4, .inl g.wt)), (r 28, .inl (cI, 16, .inl g.ty)), (r 29, .inl (cI, 16, .inl g.sp)), (r 30, .inl (cJ, 24, .inr (.inl g.z.1))), (r 31, .inl (cI, 24, .inl g.z.2.1)), (r 32, .inl (cZ, 24, .inl g.z.2.2.1)), (r 33, .inl (cJ, 24, .inr (.inl g.z.2.2.2))), (r 34, .inl (cI, 24, .inl (kpI g ng o.oI 4))), (r 35, .inl (cZ, 4, .inl (cpB o.oA g.aw 4))), (r 36, .inl (cJ, 4, .inr (.inl (cpL o.oW g.nw 4)))), (r 37, .inl (cI, 16, .inl (cpA o.oT g.ty 16))), (r 38, .inl (cI, 16, .inl (cpA o.oS g.sp 16))), (r 39, .inl (cJ, 24, .inr (.inl (vp_updL (cpL o.z.1 g.z.1 j3) j3 (g.z.1 j3))))), (r 40, .inl (cI, 24, .inl (cpA o.z.2.1 g.z.2.1 j3))), (r 41, .inl (cZ, 24, .inl (cpB o.z.2.2.1 g.z.2.2.1 j3))), (r 42, .inl (cJ, 24, .inr (.inl (cpL o.z.2.2.2 g.z.2.2.2 j3))))] := hD
                    refine lv_aload_n hx hb d_Mo_keepOld_207 rfl (lv_at hl 0 rfl) ?_
                    refine va_get (D := D) (ci := 13) (v := .ref (r 40)) (C := R_Mo) (T := F_Mo) (N := 54) hx hb hts i_Mo hown hK hP 0 rfl rfl 40 (by decide) (hts _ wd_1128) (fun _ h9 => h9) rfl d_Mo_keepOld_208 ?_
                    refine lv_iload_n hx hb d_Mo_keepOld_211 rfl (lv_at hl 1 rfl) ?_
                    refine lv_aload_n hx hb d_Mo_keepOld_212 rfl (lv_at hl 0 rfl) ?_
                    refine va_get (D := D) (ci := 13) (v := .ref (r 31)) (C := R_Mo) (T := F_Mo) (N := 54) hx hb hts i_Mo hown hK hP 0 rfl rfl 31 (by decide) (hts _ wd_1119) (fun _ h9 => h9) rfl d_Mo_keepOld_213 ?_
                    refine lv_iload_n hx hb d_Mo_keepOld_216 rfl (lv_at hl 1 rfl) ?_
                    refine z_iald hx hb hK hP 12 0 rfl rfl j3 rfl (by omega) (by omega) d_Mo_keepOld_217 ?_
                    refine z_iast hx hb hK hP hD hS 21 0 rfl rfl j3 rfl (by omega) (by omega) d_Mo_keepOld_218 (fun H locs hP hD hS => ?_)
                    have hP : va_P D classes [(h, .inr (13, mO r th si le lv (nI ng) pn pl rs)), (r 20, .inl (cI, 4, .inl g.nu)), (r 21, .inl (cI, 4, .inl g.pi)), (r 22, .inl (cI, 4, .inl g.vs)), (r 23, .inl (cI, 4, .inl g.cp)), (r 24, .inl (cI, 4, .inl g.sc)), (r 25, .inl (cZ, 4, .inl g.aw)), (r 26, .inl (cJ, 4, .inr (.inl g.nw))), (r 27, .inl (cI, 4, .inl g.wt)), (r 28, .inl (cI, 16, .inl g.ty)), (r 29, .inl (cI, 16, .inl g.sp)), (r 30, .inl (cJ, 24, .inr (.inl g.z.1))), (r 31, .inl (cI, 24, .inl g.z.2.1)), (r 32, .inl (cZ, 24, .inl g.z.2.2.1)), (r 33, .inl (cJ, 24, .inr (.inl g.z.2.2.2))), (r 34, .inl (cI, 24, .inl (kpI g ng o.oI 4))), (r 35, .inl (cZ, 4, .inl (cpB o.oA g.aw 4))), (r 36, .inl (cJ, 4, .inr (.inl (cpL o.oW g.nw 4)))), (r 37, .inl (cI, 16, .inl (cpA o.oT g.ty 16))), (r 38, .inl (cI, 16, .inl (cpA o.oS g.sp 16))), (r 39, .inl (cJ, 24, .inr (.inl (vp_updL (cpL o.z.1 g.z.1 j3) j3 (g.z.1 j3))))), (r 40, .inl (cI, 24, .inl (upd (cpA o.z.2.1 g.z.2.1 j3) j3 (g.z.2.1 j3)))), (r 41, .inl (cZ, 24, .inl (cpB o.z.2.2.1 g.z.2.2.1 j3))), (r 42, .inl (cJ, 24, .inr (.inl (cpL o.z.2.2.2 g.z.2.2.2 j3))))] H := hP
                    have hD : va_D A [(h, .inr (13, mO r th si le lv (nI ng) pn pl rs)), (r 20, .inl (cI, 4, .inl g.nu)), (r 21, .inl (cI, 4, .inl g.pi)), (r 22, .inl (cI, 4, .inl g.vs)), (r 23, .inl (cI, 4, .inl g.cp)), (r 24, .inl (cI, 4, .inl g.sc)), (r 25, .inl (cZ, 4, .inl g.aw)), (r 26, .inl (cJ, 4, .inr (.inl g.nw))), (r 27, .inl (cI, 4, .inl g.wt)), (r 28, .inl (cI, 16, .inl g.ty)), (r 29, .inl (cI, 16, .inl g.sp)), (r 30, .inl (cJ, 24, .inr (.inl g.z.1))), (r 31, .inl (cI, 24, .inl g.z.2.1)), (r 32, .inl (cZ, 24, .inl g.z.2.2.1)), (r 33, .inl (cJ, 24, .inr (.inl g.z.2.2.2))), (r 34, .inl (cI, 24, .inl (kpI g ng o.oI 4))), (r 35, .inl (cZ, 4, .inl (cpB o.oA g.aw 4))), (r 36, .inl (cJ, 4, .inr (.inl (cpL o.oW g.nw 4)))), (r 37, .inl (cI, 16, .inl (cpA o.oT g.ty 16))), (r 38, .inl (cI, 16, .inl (cpA o.oS g.sp 16))), (r 39, .inl (cJ, 24, .inr (.inl (vp_updL (cpL o.z.1 g.z.1 j3) j3 (g.z.1 j3))))), (r 40, .inl (cI, 24, .inl (upd (cpA o.z.2.1 g.z.2.1 j3) j3 (g.z.2.1 j3)))), (r 41, .inl (cZ, 24, .inl (cpB o.z.2.2.1 g.z.2.2.1 j3))), (r 42, .inl (cJ, 24, .inr (.inl (cpL o.z.2.2.2 g.z.2.2.2 j3))))] := hD
                    refine lv_aload_n hx hb d_Mo_keepOld_219 rfl (lv_at hl 0 rfl) ?_
                    refine va_get (D := D) (ci := 13) (v := .ref (r 41)) (C := R_Mo) (T := F_Mo) (N := 54) hx hb hts i_Mo hown hK hP 0 rfl rfl 41 (by decide) (hts _ wd_1129) (fun _ h9 => h9) rfl d_Mo_keepOld_220 ?_
                    refine lv_iload_n hx hb d_Mo_keepOld_223 rfl (lv_at hl 1 rfl) ?_
                    refine lv_aload_n hx hb d_Mo_keepOld_224 rfl (lv_at hl 0 rfl) ?_
                    refine va_get (D := D) (ci := 13) (v := .ref (r 32)) (C := R_Mo) (T := F_Mo) (N := 54) hx hb hts i_Mo hown hK hP 0 rfl rfl 32 (by decide) (hts _ wd_1120) (fun _ h9 => h9) rfl d_Mo_keepOld_225 ?_
                    refine lv_iload_n hx hb d_Mo_keepOld_228 rfl (lv_at hl 1 rfl) ?_
                    refine z_zald hx hb hK hP 13 2 rfl rfl j3 rfl (by omega) (by omega) d_Mo_keepOld_229 ?_
                    refine z_zast hx hb hK hP hD hS 22 2 rfl rfl j3 rfl (by omega) (by omega) d_Mo_keepOld_230 (fun H locs hP hD hS => ?_)
                    have hP : va_P D classes [(h, .inr (13, mO r th si le lv (nI ng) pn pl rs)), (r 20, .inl (cI, 4, .inl g.nu)), (r 21, .inl (cI, 4, .inl g.pi)), (r 22, .inl (cI, 4, .inl g.vs)), (r 23, .inl (cI, 4, .inl g.cp)), (r 24, .inl (cI, 4, .inl g.sc)), (r 25, .inl (cZ, 4, .inl g.aw)), (r 26, .inl (cJ, 4, .inr (.inl g.nw))), (r 27, .inl (cI, 4, .inl g.wt)), (r 28, .inl (cI, 16, .inl g.ty)), (r 29, .inl (cI, 16, .inl g.sp)), (r 30, .inl (cJ, 24, .inr (.inl g.z.1))), (r 31, .inl (cI, 24, .inl g.z.2.1)), (r 32, .inl (cZ, 24, .inl g.z.2.2.1)), (r 33, .inl (cJ, 24, .inr (.inl g.z.2.2.2))), (r 34, .inl (cI, 24, .inl (kpI g ng o.oI 4))), (r 35, .inl (cZ, 4, .inl (cpB o.oA g.aw 4))), (r 36, .inl (cJ, 4, .inr (.inl (cpL o.oW g.nw 4)))), (r 37, .inl (cI, 16, .inl (cpA o.oT g.ty 16))), (r 38, .inl (cI, 16, .inl (cpA o.oS g.sp 16))), (r 39, .inl (cJ, 24, .inr (.inl (vp_updL (cpL o.z.1 g.z.1 j3) j3 (g.z.1 j3))))), (r 40, .inl (cI, 24, .inl (upd (cpA o.z.2.1 g.z.2.1 j3) j3 (g.z.2.1 j3)))), (r 41, .inl (cZ, 24, .inl (upd (cpB o.z.2.2.1 g.z.2.2.1 j3) j3 (vp_nar .boolean (g.z.2.2.1 j3))))), (r 42, .inl (cJ, 24, .inr (.inl (cpL o.z.2.2.2 g.z.2.2.2 j3))))] H := hP
                    have hD : va_D A [(h, .inr (13, mO r th si le lv (nI ng) pn pl rs)), (r 20, .inl (cI, 4, .inl g.nu)), (r 21, .inl (cI, 4, .inl g.pi)), (r 22, .inl (cI, 4, .inl g.vs)), (r 23, .inl (cI, 4, .inl g.cp)), (r 24, .inl (cI, 4, .inl g.sc)), (r 25, .inl (cZ, 4, .inl g.aw)), (r 26, .inl (cJ, 4, .inr (.inl g.nw))), (r 27, .inl (cI, 4, .inl g.wt)), (r 28, .inl (cI, 16, .inl g.ty)), (r 29, .inl (cI, 16, .inl g.sp)), (r 30, .inl (cJ, 24, .inr (.inl g.z.1))), (r 31, .inl (cI, 24, .inl g.z.2.1)), (r 32, .inl (cZ, 24, .inl g.z.2.2.1)), (r 33, .inl (cJ, 24, .inr (.inl g.z.2.2.2))), (r 34, .inl (cI, 24, .inl (kpI g ng o.oI 4))), (r 35, .inl (cZ, 4, .inl (cpB o.oA g.aw 4))), (r 36, .inl (cJ, 4, .inr (.inl (cpL o.oW g.nw 4)))), (r 37, .inl (cI, 16, .inl (cpA o.oT g.ty 16))), (r 38, .inl (cI, 16, .inl (cpA o.oS g.sp 16))), (r 39, .inl (cJ, 24, .inr (.inl (vp_updL (cpL o.z.1 g.z.1 j3) j3 (g.z.1 j3))))), (r 40, .inl (cI, 24, .inl (upd (cpA o.z.2.1 g.z.2.1 j3) j3 (g.z.2.1 j3)))), (r 41, .inl (cZ, 24, .inl (upd (cpB o.z.2.2.1 g.z.2.2.1 j3) j3 (vp_nar .boolean (g.z.2.2.1 j3))))), (r 42, .inl (cJ, 24, .inr (.inl (cpL o.z.2.2.2 g.z.2.2.2 j3))))] := hD
                    refine lv_aload_n hx hb d_Mo_keepOld_231 rfl (lv_at hl 0 rfl) ?_
                    refine va_get (D := D) (ci := 13) (v := .ref (r 42)) (C := R_Mo) (T := F_Mo) (N := 54) hx hb hts i_Mo hown hK hP 0 rfl rfl 42 (by decide) (hts _ wd_1130) (fun _ h9 => h9) rfl d_Mo_keepOld_232 ?_
                    refine lv_iload_n hx hb d_Mo_keepOld_235 rfl (lv_at hl 1 rfl) ?_
                    refine lv_aload_n hx hb d_Mo_keepOld_236 rfl (lv_at hl 0 rfl) ?_
                    refine va_get (D := D) (ci := 13) (v := .ref (r 33)) (C := R_Mo) (T := F_Mo) (N := 54) hx hb hts i_Mo hown hK hP 0 rfl rfl 33 (by decide) (hts _ wd_1121) (fun _ h9 => h9) rfl d_Mo_keepOld_237 ?_
                    refine lv_iload_n hx hb d_Mo_keepOld_240 rfl (lv_at hl 1 rfl) ?_
                    refine z_lald hx hb hK hP 14 1 rfl rfl j3 rfl (by omega) (by omega) d_Mo_keepOld_241 ?_
                    refine z_last hx hb hK hP hD hS 23 1 rfl rfl j3 rfl (by omega) (by omega) d_Mo_keepOld_242 (fun H locs hP hD hS => ?_)
                    have hP : va_P D classes [(h, .inr (13, mO r th si le lv (nI ng) pn pl rs)), (r 20, .inl (cI, 4, .inl g.nu)), (r 21, .inl (cI, 4, .inl g.pi)), (r 22, .inl (cI, 4, .inl g.vs)), (r 23, .inl (cI, 4, .inl g.cp)), (r 24, .inl (cI, 4, .inl g.sc)), (r 25, .inl (cZ, 4, .inl g.aw)), (r 26, .inl (cJ, 4, .inr (.inl g.nw))), (r 27, .inl (cI, 4, .inl g.wt)), (r 28, .inl (cI, 16, .inl g.ty)), (r 29, .inl (cI, 16, .inl g.sp)), (r 30, .inl (cJ, 24, .inr (.inl g.z.1))), (r 31, .inl (cI, 24, .inl g.z.2.1)), (r 32, .inl (cZ, 24, .inl g.z.2.2.1)), (r 33, .inl (cJ, 24, .inr (.inl g.z.2.2.2))), (r 34, .inl (cI, 24, .inl (kpI g ng o.oI 4))), (r 35, .inl (cZ, 4, .inl (cpB o.oA g.aw 4))), (r 36, .inl (cJ, 4, .inr (.inl (cpL o.oW g.nw 4)))), (r 37, .inl (cI, 16, .inl (cpA o.oT g.ty 16))), (r 38, .inl (cI, 16, .inl (cpA o.oS g.sp 16))), (r 39, .inl (cJ, 24, .inr (.inl (vp_updL (cpL o.z.1 g.z.1 j3) j3 (g.z.1 j3))))), (r 40, .inl (cI, 24, .inl (upd (cpA o.z.2.1 g.z.2.1 j3) j3 (g.z.2.1 j3)))), (r 41, .inl (cZ, 24, .inl (upd (cpB o.z.2.2.1 g.z.2.2.1 j3) j3 (vp_nar .boolean (g.z.2.2.1 j3))))), (r 42, .inl (cJ, 24, .inr (.inl (vp_updL (cpL o.z.2.2.2 g.z.2.2.2 j3) j3 (g.z.2.2.2 j3)))))] H := hP
                    have hD : va_D A [(h, .inr (13, mO r th si le lv (nI ng) pn pl rs)), (r 20, .inl (cI, 4, .inl g.nu)), (r 21, .inl (cI, 4, .inl g.pi)), (r 22, .inl (cI, 4, .inl g.vs)), (r 23, .inl (cI, 4, .inl g.cp)), (r 24, .inl (cI, 4, .inl g.sc)), (r 25, .inl (cZ, 4, .inl g.aw)), (r 26, .inl (cJ, 4, .inr (.inl g.nw))), (r 27, .inl (cI, 4, .inl g.wt)), (r 28, .inl (cI, 16, .inl g.ty)), (r 29, .inl (cI, 16, .inl g.sp)), (r 30, .inl (cJ, 24, .inr (.inl g.z.1))), (r 31, .inl (cI, 24, .inl g.z.2.1)), (r 32, .inl (cZ, 24, .inl g.z.2.2.1)), (r 33, .inl (cJ, 24, .inr (.inl g.z.2.2.2))), (r 34, .inl (cI, 24, .inl (kpI g ng o.oI 4))), (r 35, .inl (cZ, 4, .inl (cpB o.oA g.aw 4))), (r 36, .inl (cJ, 4, .inr (.inl (cpL o.oW g.nw 4)))), (r 37, .inl (cI, 16, .inl (cpA o.oT g.ty 16))), (r 38, .inl (cI, 16, .inl (cpA o.oS g.sp 16))), (r 39, .inl (cJ, 24, .inr (.inl (vp_updL (cpL o.z.1 g.z.1 j3) j3 (g.z.1 j3))))), (r 40, .inl (cI, 24, .inl (upd (cpA o.z.2.1 g.z.2.1 j3) j3 (g.z.2.1 j3)))), (r 41, .inl (cZ, 24, .inl (upd (cpB o.z.2.2.1 g.z.2.2.1 j3) j3 (vp_nar .boolean (g.z.2.2.1 j3))))), (r 42, .inl (cJ, 24, .inr (.inl (vp_updL (cpL o.z.2.2.2 g.z.2.2.2 j3) j3 (g.z.2.2.2 j3)))))] := hD
                    refine lv_iinc (k := 1) (v := nI (j3 + 1)) (lv' := [(1, .int (nI (j3 + 1))), (0, .ref h)]) hx hb d_Mo_keepOld_243 hl rfl (nI_1 j3) (by decide) rfl (fun ls hl => ?_)
                    refine lv_goto (tgt := 189) hx hb d_Mo_keepOld_246 rfl ?_
                    exact ih189 (j3 + 1) H locs ls (by omega) (by omega) (lv_sub hl [1, 0] rfl) hP hD hS
              exact loop189 _ 0 H locs ls (Nat.lt_succ_self _) (Nat.zero_le _) (lv_sub hl [1, 0] rfl) hP hD hS
            · have h154 := mt (nI_leI (a := 16) (by omega) (by omega)).mpr h154
              refine lv_aload_n hx hb d_Mo_keepOld_157 rfl (lv_at hl 0 rfl) ?_
              refine va_get (D := D) (ci := 13) (v := .ref (r 37)) (C := R_Mo) (T := F_Mo) (N := 54) hx hb hts i_Mo hown hK hP 0 rfl rfl 37 (by decide) (hts _ wd_1125) (fun _ h9 => h9) rfl d_Mo_keepOld_158 ?_
              refine lv_iload_n hx hb d_Mo_keepOld_161 rfl (lv_at hl 1 rfl) ?_
              refine lv_aload_n hx hb d_Mo_keepOld_162 rfl (lv_at hl 0 rfl) ?_
              refine va_get (D := D) (ci := 13) (v := .ref (r 28)) (C := R_Mo) (T := F_Mo) (N := 54) hx hb hts i_Mo hown hK hP 0 rfl rfl 28 (by decide) (hts _ wd_1116) (fun _ h9 => h9) rfl d_Mo_keepOld_163 ?_
              refine lv_iload_n hx hb d_Mo_keepOld_166 rfl (lv_at hl 1 rfl) ?_
              refine z_iald hx hb hK hP 9 0 rfl rfl j2 rfl (by omega) (by omega) d_Mo_keepOld_167 ?_
              refine z_iast hx hb hK hP hD hS 18 0 rfl rfl j2 rfl (by omega) (by omega) d_Mo_keepOld_168 (fun H locs hP hD hS => ?_)
              have hP : va_P D classes [(h, .inr (13, mO r th si le lv (nI ng) pn pl rs)), (r 20, .inl (cI, 4, .inl g.nu)), (r 21, .inl (cI, 4, .inl g.pi)), (r 22, .inl (cI, 4, .inl g.vs)), (r 23, .inl (cI, 4, .inl g.cp)), (r 24, .inl (cI, 4, .inl g.sc)), (r 25, .inl (cZ, 4, .inl g.aw)), (r 26, .inl (cJ, 4, .inr (.inl g.nw))), (r 27, .inl (cI, 4, .inl g.wt)), (r 28, .inl (cI, 16, .inl g.ty)), (r 29, .inl (cI, 16, .inl g.sp)), (r 30, .inl (cJ, 24, .inr (.inl g.z.1))), (r 31, .inl (cI, 24, .inl g.z.2.1)), (r 32, .inl (cZ, 24, .inl g.z.2.2.1)), (r 33, .inl (cJ, 24, .inr (.inl g.z.2.2.2))), (r 34, .inl (cI, 24, .inl (kpI g ng o.oI 4))), (r 35, .inl (cZ, 4, .inl (cpB o.oA g.aw 4))), (r 36, .inl (cJ, 4, .inr (.inl (cpL o.oW g.nw 4)))), (r 37, .inl (cI, 16, .inl (upd (cpA o.oT g.ty j2) j2 (g.ty j2)))), (r 38, .inl (cI, 16, .inl (cpA o.oS g.sp j2))), (r 39, .inl (cJ, 24, .inr (.inl (cpL o.z.1 g.z.1 0)))), (r 40, .inl (cI, 24, .inl (cpA o.z.2.1 g.z.2.1 0))), (r 41, .inl (cZ, 24, .inl (cpB o.z.2.2.1 g.z.2.2.1 0))), (r 42, .inl (cJ, 24, .inr (.inl (cpL o.z.2.2.2 g.z.2.2.2 0))))] H := hP
              have hD : va_D A [(h, .inr (13, mO r th si le lv (nI ng) pn pl rs)), (r 20, .inl (cI, 4, .inl g.nu)), (r 21, .inl (cI, 4, .inl g.pi)), (r 22, .inl (cI, 4, .inl g.vs)), (r 23, .inl (cI, 4, .inl g.cp)), (r 24, .inl (cI, 4, .inl g.sc)), (r 25, .inl (cZ, 4, .inl g.aw)), (r 26, .inl (cJ, 4, .inr (.inl g.nw))), (r 27, .inl (cI, 4, .inl g.wt)), (r 28, .inl (cI, 16, .inl g.ty)), (r 29, .inl (cI, 16, .inl g.sp)), (r 30, .inl (cJ, 24, .inr (.inl g.z.1))), (r 31, .inl (cI, 24, .inl g.z.2.1)), (r 32, .inl (cZ, 24, .inl g.z.2.2.1)), (r 33, .inl (cJ, 24, .inr (.inl g.z.2.2.2))), (r 34, .inl (cI, 24, .inl (kpI g ng o.oI 4))), (r 35, .inl (cZ, 4, .inl (cpB o.oA g.aw 4))), (r 36, .inl (cJ, 4, .inr (.inl (cpL o.oW g.nw 4)))), (r 37, .inl (cI, 16, .inl (upd (cpA o.oT g.ty j2) j2 (g.ty j2)))), (r 38, .inl (cI, 16, .inl (cpA o.oS g.sp j2))), (r 39, .inl (cJ, 24, .inr (.inl (cpL o.z.1 g.z.1 0)))), (r 40, .inl (cI, 24, .inl (cpA o.z.2.1 g.z.2.1 0))), (r 41, .inl (cZ, 24, .inl (cpB o.z.2.2.1 g.z.2.2.1 0))), (r 42, .inl (cJ, 24, .inr (.inl (cpL o.z.2.2.2 g.z.2.2.2 0))))] := hD
              refine lv_aload_n hx hb d_Mo_keepOld_169 rfl (lv_at hl 0 rfl) ?_
              refine va_get (D := D) (ci := 13) (v := .ref (r 38)) (C := R_Mo) (T := F_Mo) (N := 54) hx hb hts i_Mo hown hK hP 0 rfl rfl 38 (by decide) (hts _ wd_1126) (fun _ h9 => h9) rfl d_Mo_keepOld_170 ?_
              refine lv_iload_n hx hb d_Mo_keepOld_173 rfl (lv_at hl 1 rfl) ?_
              refine lv_aload_n hx hb d_Mo_keepOld_174 rfl (lv_at hl 0 rfl) ?_
              refine va_get (D := D) (ci := 13) (v := .ref (r 29)) (C := R_Mo) (T := F_Mo) (N := 54) hx hb hts i_Mo hown hK hP 0 rfl rfl 29 (by decide) (hts _ wd_1117) (fun _ h9 => h9) rfl d_Mo_keepOld_175 ?_
              refine lv_iload_n hx hb d_Mo_keepOld_178 rfl (lv_at hl 1 rfl) ?_
              refine z_iald hx hb hK hP 10 0 rfl rfl j2 rfl (by omega) (by omega) d_Mo_keepOld_179 ?_
              refine z_iast hx hb hK hP hD hS 19 0 rfl rfl j2 rfl (by omega) (by omega) d_Mo_keepOld_180 (fun H locs hP hD hS => ?_)
              have hP : va_P D classes [(h, .inr (13, mO r th si le lv (nI ng) pn pl rs)), (r 20, .inl (cI, 4, .inl g.nu)), (r 21, .inl (cI, 4, .inl g.pi)), (r 22, .inl (cI, 4, .inl g.vs)), (r 23, .inl (cI, 4, .inl g.cp)), (r 24, .inl (cI, 4, .inl g.sc)), (r 25, .inl (cZ, 4, .inl g.aw)), (r 26, .inl (cJ, 4, .inr (.inl g.nw))), (r 27, .inl (cI, 4, .inl g.wt)), (r 28, .inl (cI, 16, .inl g.ty)), (r 29, .inl (cI, 16, .inl g.sp)), (r 30, .inl (cJ, 24, .inr (.inl g.z.1))), (r 31, .inl (cI, 24, .inl g.z.2.1)), (r 32, .inl (cZ, 24, .inl g.z.2.2.1)), (r 33, .inl (cJ, 24, .inr (.inl g.z.2.2.2))), (r 34, .inl (cI, 24, .inl (kpI g ng o.oI 4))), (r 35, .inl (cZ, 4, .inl (cpB o.oA g.aw 4))), (r 36, .inl (cJ, 4, .inr (.inl (cpL o.oW g.nw 4)))), (r 37, .inl (cI, 16, .inl (upd (cpA o.oT g.ty j2) j2 (g.ty j2)))), (r 38, .inl (cI, 16, .inl (upd (cpA o.oS g.sp j2) j2 (g.sp j2)))), (r 39, .inl (cJ, 24, .inr (.inl (cpL o.z.1 g.z.1 0)))), (r 40, .inl (cI, 24, .inl (cpA o.z.2.1 g.z.2.1 0))), (r 41, .inl (cZ, 24, .inl (cpB o.z.2.2.1 g.z.2.2.1 0))), (r 42, .inl (cJ, 24, .inr (.inl (cpL o.z.2.2.2 g.z.2.2.2 0))))] H := hP
              have hD : va_D A [(h, .inr (13, mO r th si le lv (nI ng) pn pl rs)), (r 20, .inl (cI, 4, .inl g.nu)), (r 21, .inl (cI, 4, .inl g.pi)), (r 22, .inl (cI, 4, .inl g.vs)), (r 23, .inl (cI, 4, .inl g.cp)), (r 24, .inl (cI, 4, .inl g.sc)), (r 25, .inl (cZ, 4, .inl g.aw)), (r 26, .inl (cJ, 4, .inr (.inl g.nw))), (r 27, .inl (cI, 4, .inl g.wt)), (r 28, .inl (cI, 16, .inl g.ty)), (r 29, .inl (cI, 16, .inl g.sp)), (r 30, .inl (cJ, 24, .inr (.inl g.z.1))), (r 31, .inl (cI, 24, .inl g.z.2.1)), (r 32, .inl (cZ, 24, .inl g.z.2.2.1)), (r 33, .inl (cJ, 24, .inr (.inl g.z.2.2.2))), (r 34, .inl (cI, 24, .inl (kpI g ng o.oI 4))), (r 35, .inl (cZ, 4, .inl (cpB o.oA g.aw 4))), (r 36, .inl (cJ, 4, .inr (.inl (cpL o.oW g.nw 4)))), (r 37, .inl (cI, 16, .inl (upd (cpA o.oT g.ty j2) j2 (g.ty j2)))), (r 38, .inl (cI, 16, .inl (upd (cpA o.oS g.sp j2) j2 (g.sp j2)))), (r 39, .inl (cJ, 24, .inr (.inl (cpL o.z.1 g.z.1 0)))), (r 40, .inl (cI, 24, .inl (cpA o.z.2.1 g.z.2.1 0))), (r 41, .inl (cZ, 24, .inl (cpB o.z.2.2.1 g.z.2.2.1 0))), (r 42, .inl (cJ, 24, .inr (.inl (cpL o.z.2.2.2 g.z.2.2.2 0))))] := hD
              refine lv_iinc (k := 1) (v := nI (j2 + 1)) (lv' := [(1, .int (nI (j2 + 1))), (0, .ref h)]) hx hb d_Mo_keepOld_181 hl rfl (nI_1 j2) (by decide) rfl (fun ls hl => ?_)
              refine lv_goto (tgt := 151) hx hb d_Mo_keepOld_184 rfl ?_
              exact ih151 (j2 + 1) H locs ls (by omega) (by omega) (lv_sub hl [1, 0] rfl) hP hD hS
        exact loop151 _ 0 H locs ls (Nat.lt_succ_self _) (Nat.zero_le _) (lv_sub hl [1, 0] rfl) hP hD hS
      · have h4 := mt (nI_leI (a := 4) (by omega) (by omega)).mpr h4
        refine lv_aload_n hx hb d_Mo_keepOld_7 rfl (lv_at hl 0 rfl) ?_
        refine va_get (D := D) (ci := 13) (v := .ref (r 34)) (C := R_Mo) (T := F_Mo) (N := 54) hx hb hts i_Mo hown hK hP 0 rfl rfl 34 (by decide) (hts _ wd_1122) (fun _ h9 => h9) rfl d_Mo_keepOld_8 ?_
        refine lv_bipush (v := 6) hx hb d_Mo_keepOld_11 (by decide) ?_
        refine lv_iload_n hx hb d_Mo_keepOld_13 rfl (lv_at hl 1 rfl) ?_
        refine lv_imul hx hb d_Mo_keepOld_14 ?_
        refine z_topi (w := nI (6 * j)) (pk_mul 6 _) ?_
        refine lv_iload_n hx hb d_Mo_keepOld_15 rfl (lv_at hl 1 rfl) ?_
        refine lv_aload_n hx hb d_Mo_keepOld_16 rfl (lv_at hl 0 rfl) ?_
        refine va_get (D := D) (ci := 13) (v := .int (nI ng)) (C := R_Mo) (T := F_Mo) (N := 54) hx hb hts i_Mo hown hK hP 0 rfl rfl 19 (by decide) (hts _ wd_1107) (fun _ h9 => h9) rfl d_Mo_keepOld_17 ?_
        suffices key20 : W p l e ({ frames := 0, cells := 0, slots := 0, locals := 0 }) s m ([.ref h]).toArray below meth cd H locs 0 0 (MQ below (va_Qv (fun (_ : Unit) => True) (fun (_u : Unit) t => zW D (A) [(h, .inr (13, mO r th si le lv (nI ng) pn pl rs)), (r 20, .inl (cI, 4, .inl g.nu)), (r 21, .inl (cI, 4, .inl g.pi)), (r 22, .inl (cI, 4, .inl g.vs)), (r 23, .inl (cI, 4, .inl g.cp)), (r 24, .inl (cI, 4, .inl g.sc)), (r 25, .inl (cZ, 4, .inl g.aw)), (r 26, .inl (cJ, 4, .inr (.inl g.nw))), (r 27, .inl (cI, 4, .inl g.wt)), (r 28, .inl (cI, 16, .inl g.ty)), (r 29, .inl (cI, 16, .inl g.sp)), (r 30, .inl (cJ, 24, .inr (.inl g.z.1))), (r 31, .inl (cI, 24, .inl g.z.2.1)), (r 32, .inl (cZ, 24, .inl g.z.2.2.1)), (r 33, .inl (cJ, 24, .inr (.inl g.z.2.2.2))), (r 34, .inl (cI, 24, .inl ((kpG g ng o).oI))), (r 35, .inl (cZ, 4, .inl ((kpG g ng o).oA))), (r 36, .inl (cJ, 4, .inr (.inl ((kpG g ng o).oW)))), (r 37, .inl (cI, 16, .inl ((kpG g ng o).oT))), (r 38, .inl (cI, 16, .inl ((kpG g ng o).oS))), (r 39, .inl (cJ, 24, .inr (.inl ((kpG g ng o).z.1)))), (r 40, .inl (cI, 24, .inl ((kpG g ng o).z.2.1))), (r 41, .inl (cZ, 24, .inl ((kpG g ng o).z.2.2.1))), (r 42, .inl (cJ, 24, .inr (.inl ((kpG g ng o).z.2.2.2))))] [(cI, .int), (cJ, .long), (cZ, .boolean)] t) (A)) ([.ref h]).toArray s 0 0 (A)) (F0 m 33 ls [.int (if j < ng then g.nu j else 0), .int (nI (6 * j)), .ref (r 34)]) by
          refine lv_icmp_ge (tgt := 32) hx hb d_Mo_keepOld_20 rfl (fun h20 => ?_) (fun h20 => ?_)
          · refine lv_iconst (v := 0) hx hb d_Mo_keepOld_32 (by decide) ?_
            refine z_topi (w := (if j < ng then g.nu j else 0)) ((if_neg (Nat.not_lt.mpr ((nI_leI (by omega) (by omega)).mp h20))).symm) ?_
            exact key20
          · refine lv_aload_n hx hb d_Mo_keepOld_23 rfl (lv_at hl 0 rfl) ?_
            refine va_get (D := D) (ci := 13) (v := .ref (r 20)) (C := R_Mo) (T := F_Mo) (N := 54) hx hb hts i_Mo hown hK hP 0 rfl rfl 20 (by decide) (hts _ wd_1108) (fun _ h9 => h9) rfl d_Mo_keepOld_24 ?_
            refine lv_iload_n hx hb d_Mo_keepOld_27 rfl (lv_at hl 1 rfl) ?_
            refine z_iald hx hb hK hP 1 0 rfl rfl j rfl (by omega) (by omega) d_Mo_keepOld_28 ?_
            refine lv_goto (tgt := 33) hx hb d_Mo_keepOld_29 rfl ?_
            refine z_topi (w := (if j < ng then g.nu j else 0)) ((if_pos (Nat.not_le.mp (mt (nI_leI (by omega) (by omega)).mpr h20))).symm) ?_
            exact key20
        refine z_iast hx hb hK hP hD hS 15 0 rfl rfl (6 * j) rfl (by omega) (by omega) d_Mo_keepOld_33 (fun H locs hP hD hS => ?_)
        have hP : va_P D classes [(h, .inr (13, mO r th si le lv (nI ng) pn pl rs)), (r 20, .inl (cI, 4, .inl g.nu)), (r 21, .inl (cI, 4, .inl g.pi)), (r 22, .inl (cI, 4, .inl g.vs)), (r 23, .inl (cI, 4, .inl g.cp)), (r 24, .inl (cI, 4, .inl g.sc)), (r 25, .inl (cZ, 4, .inl g.aw)), (r 26, .inl (cJ, 4, .inr (.inl g.nw))), (r 27, .inl (cI, 4, .inl g.wt)), (r 28, .inl (cI, 16, .inl g.ty)), (r 29, .inl (cI, 16, .inl g.sp)), (r 30, .inl (cJ, 24, .inr (.inl g.z.1))), (r 31, .inl (cI, 24, .inl g.z.2.1)), (r 32, .inl (cZ, 24, .inl g.z.2.2.1)), (r 33, .inl (cJ, 24, .inr (.inl g.z.2.2.2))), (r 34, .inl (cI, 24, .inl (upd (kpI g ng o.oI j) (6 * j) (if j < ng then g.nu j else 0)))), (r 35, .inl (cZ, 4, .inl (cpB o.oA g.aw j))), (r 36, .inl (cJ, 4, .inr (.inl (cpL o.oW g.nw j)))), (r 37, .inl (cI, 16, .inl (cpA o.oT g.ty 0))), (r 38, .inl (cI, 16, .inl (cpA o.oS g.sp 0))), (r 39, .inl (cJ, 24, .inr (.inl (cpL o.z.1 g.z.1 0)))), (r 40, .inl (cI, 24, .inl (cpA o.z.2.1 g.z.2.1 0))), (r 41, .inl (cZ, 24, .inl (cpB o.z.2.2.1 g.z.2.2.1 0))), (r 42, .inl (cJ, 24, .inr (.inl (cpL o.z.2.2.2 g.z.2.2.2 0))))] H := hP
        have hD : va_D A [(h, .inr (13, mO r th si le lv (nI ng) pn pl rs)), (r 20, .inl (cI, 4, .inl g.nu)), (r 21, .inl (cI, 4, .inl g.pi)), (r 22, .inl (cI, 4, .inl g.vs)), (r 23, .inl (cI, 4, .inl g.cp)), (r 24, .inl (cI, 4, .inl g.sc)), (r 25, .inl (cZ, 4, .inl g.aw)), (r 26, .inl (cJ, 4, .inr (.inl g.nw))), (r 27, .inl (cI, 4, .inl g.wt)), (r 28, .inl (cI, 16, .inl g.ty)), (r 29, .inl (cI, 16, .inl g.sp)), (r 30, .inl (cJ, 24, .inr (.inl g.z.1))), (r 31, .inl (cI, 24, .inl g.z.2.1)), (r 32, .inl (cZ, 24, .inl g.z.2.2.1)), (r 33, .inl (cJ, 24, .inr (.inl g.z.2.2.2))), (r 34, .inl (cI, 24, .inl (upd (kpI g ng o.oI j) (6 * j) (if j < ng then g.nu j else 0)))), (r 35, .inl (cZ, 4, .inl (cpB o.oA g.aw j))), (r 36, .inl (cJ, 4, .inr (.inl (cpL o.oW g.nw j)))), (r 37, .inl (cI, 16, .inl (cpA o.oT g.ty 0))), (r 38, .inl (cI, 16, .inl (cpA o.oS g.sp 0))), (r 39, .inl (cJ, 24, .inr (.inl (cpL o.z.1 g.z.1 0)))), (r 40, .inl (cI, 24, .inl (cpA o.z.2.1 g.z.2.1 0))), (r 41, .inl (cZ, 24, .inl (cpB o.z.2.2.1 g.z.2.2.1 0))), (r 42, .inl (cJ, 24, .inr (.inl (cpL o.z.2.2.2 g.z.2.2.2 0))))] := hD
        refine lv_aload_n hx hb d_Mo_keepOld_34 rfl (lv_at hl 0 rfl) ?_
        refine va_get (D := D) (ci := 13) (v := .ref (r 34)) (C := R_Mo) (T := F_Mo) (N := 54) hx hb hts i_Mo hown hK hP 0 rfl rfl 34 (by decide) (hts _ wd_1122) (fun _ h9 => h9) rfl d_Mo_keepOld_35 ?_
        refine lv_bipush (v := 6) hx hb d_Mo_keepOld_38 (by decide) ?_
        refine lv_iload_n hx hb d_Mo_keepOld_40 rfl (lv_at hl 1 rfl) ?_
        refine lv_imul hx hb d_Mo_keepOld_41 ?_
        refine z_topi (w := nI (6 * j)) (pk_mul 6 _) ?_
        refine lv_iconst (v := 1) hx hb d_Mo_keepOld_42 (by decide) ?_
        refine lv_iadd hx hb d_Mo_keepOld_43 ?_
        refine z_topi (w := nI (6 * j + 1)) (nI_add _ 1) ?_
        refine lv_aload_n hx hb d_Mo_keepOld_44 rfl (lv_at hl 0 rfl) ?_
        refine va_get (D := D) (ci := 13) (v := .ref (r 21)) (C := R_Mo) (T := F_Mo) (N := 54) hx hb hts i_Mo hown hK hP 0 rfl rfl 21 (by decide) (hts _ wd_1109) (fun _ h9 => h9) rfl d_Mo_keepOld_45 ?_
        refine lv_iload_n hx hb d_Mo_keepOld_48 rfl (lv_at hl 1 rfl) ?_
        refine z_iald hx hb hK hP 2 0 rfl rfl j rfl (by omega) (by omega) d_Mo_keepOld_49 ?_
        refine z_iast hx hb hK hP hD hS 15 0 rfl rfl (6 * j + 1) rfl (by omega) (by omega) d_Mo_keepOld_50 (fun H locs hP hD hS => ?_)
        have hP : va_P D classes [(h, .inr (13, mO r th si le lv (nI ng) pn pl rs)), (r 20, .inl (cI, 4, .inl g.nu)), (r 21, .inl (cI, 4, .inl g.pi)), (r 22, .inl (cI, 4, .inl g.vs)), (r 23, .inl (cI, 4, .inl g.cp)), (r 24, .inl (cI, 4, .inl g.sc)), (r 25, .inl (cZ, 4, .inl g.aw)), (r 26, .inl (cJ, 4, .inr (.inl g.nw))), (r 27, .inl (cI, 4, .inl g.wt)), (r 28, .inl (cI, 16, .inl g.ty)), (r 29, .inl (cI, 16, .inl g.sp)), (r 30, .inl (cJ, 24, .inr (.inl g.z.1))), (r 31, .inl (cI, 24, .inl g.z.2.1)), (r 32, .inl (cZ, 24, .inl g.z.2.2.1)), (r 33, .inl (cJ, 24, .inr (.inl g.z.2.2.2))), (r 34, .inl (cI, 24, .inl (upd (upd (kpI g ng o.oI j) (6 * j) (if j < ng then g.nu j else 0)) (6 * j + 1) (g.pi j)))), (r 35, .inl (cZ, 4, .inl (cpB o.oA g.aw j))), (r 36, .inl (cJ, 4, .inr (.inl (cpL o.oW g.nw j)))), (r 37, .inl (cI, 16, .inl (cpA o.oT g.ty 0))), (r 38, .inl (cI, 16, .inl (cpA o.oS g.sp 0))), (r 39, .inl (cJ, 24, .inr (.inl (cpL o.z.1 g.z.1 0)))), (r 40, .inl (cI, 24, .inl (cpA o.z.2.1 g.z.2.1 0))), (r 41, .inl (cZ, 24, .inl (cpB o.z.2.2.1 g.z.2.2.1 0))), (r 42, .inl (cJ, 24, .inr (.inl (cpL o.z.2.2.2 g.z.2.2.2 0))))] H := hP
        have hD : va_D A [(h, .inr (13, mO r th si le lv (nI ng) pn pl rs)), (r 20, .inl (cI, 4, .inl g.nu)), (r 21, .inl (cI, 4, .inl g.pi)), (r 22, .inl (cI, 4, .inl g.vs)), (r 23, .inl (cI, 4, .inl g.cp)), (r 24, .inl (cI, 4, .inl g.sc)), (r 25, .inl (cZ, 4, .inl g.aw)), (r 26, .inl (cJ, 4, .inr (.inl g.nw))), (r 27, .inl (cI, 4, .inl g.wt)), (r 28, .inl (cI, 16, .inl g.ty)), (r 29, .inl (cI, 16, .inl g.sp)), (r 30, .inl (cJ, 24, .inr (.inl g.z.1))), (r 31, .inl (cI, 24, .inl g.z.2.1)), (r 32, .inl (cZ, 24, .inl g.z.2.2.1)), (r 33, .inl (cJ, 24, .inr (.inl g.z.2.2.2))), (r 34, .inl (cI, 24, .inl (upd (upd (kpI g ng o.oI j) (6 * j) (if j < ng then g.nu j else 0)) (6 * j + 1) (g.pi j)))), (r 35, .inl (cZ, 4, .inl (cpB o.oA g.aw j))), (r 36, .inl (cJ, 4, .inr (.inl (cpL o.oW g.nw j)))), (r 37, .inl (cI, 16, .inl (cpA o.oT g.ty 0))), (r 38, .inl (cI, 16, .inl (cpA o.oS g.sp 0))), (r 39, .inl (cJ, 24, .inr (.inl (cpL o.z.1 g.z.1 0)))), (r 40, .inl (cI, 24, .inl (cpA o.z.2.1 g.z.2.1 0))), (r 41, .inl (cZ, 24, .inl (cpB o.z.2.2.1 g.z.2.2.1 0))), (r 42, .inl (cJ, 24, .inr (.inl (cpL o.z.2.2.2 g.z.2.2.2 0))))] := hD
        refine lv_aload_n hx hb d_Mo_keepOld_51 rfl (lv_at hl 0 rfl) ?_
        refine va_get (D := D) (ci := 13) (v := .ref (r 34)) (C := R_Mo) (T := F_Mo) (N := 54) hx hb hts i_Mo hown hK hP 0 rfl rfl 34 (by decide) (hts _ wd_1122) (fun _ h9 => h9) rfl d_Mo_keepOld_52 ?_
        refine lv_bipush (v := 6) hx hb d_Mo_keepOld_55 (by decide) ?_
        refine lv_iload_n hx hb d_Mo_keepOld_57 rfl (lv_at hl 1 rfl) ?_
        refine lv_imul hx hb d_Mo_keepOld_58 ?_
        refine z_topi (w := nI (6 * j)) (pk_mul 6 _) ?_
        refine lv_iconst (v := 2) hx hb d_Mo_keepOld_59 (by decide) ?_
        refine lv_iadd hx hb d_Mo_keepOld_60 ?_
        refine z_topi (w := nI (6 * j + 2)) (nI_add _ 2) ?_
        refine lv_aload_n hx hb d_Mo_keepOld_61 rfl (lv_at hl 0 rfl) ?_
        refine va_get (D := D) (ci := 13) (v := .ref (r 22)) (C := R_Mo) (T := F_Mo) (N := 54) hx hb hts i_Mo hown hK hP 0 rfl rfl 22 (by decide) (hts _ wd_1110) (fun _ h9 => h9) rfl d_Mo_keepOld_62 ?_
        refine lv_iload_n hx hb d_Mo_keepOld_65 rfl (lv_at hl 1 rfl) ?_
        refine z_iald hx hb hK hP 3 0 rfl rfl j rfl (by omega) (by omega) d_Mo_keepOld_66 ?_
        refine z_iast hx hb hK hP hD hS 15 0 rfl rfl (6 * j + 2) rfl (by omega) (by omega) d_Mo_keepOld_67 (fun H locs hP hD hS => ?_)
        have hP : va_P D classes [(h, .inr (13, mO r th si le lv (nI ng) pn pl rs)), (r 20, .inl (cI, 4, .inl g.nu)), (r 21, .inl (cI, 4, .inl g.pi)), (r 22, .inl (cI, 4, .inl g.vs)), (r 23, .inl (cI, 4, .inl g.cp)), (r 24, .inl (cI, 4, .inl g.sc)), (r 25, .inl (cZ, 4, .inl g.aw)), (r 26, .inl (cJ, 4, .inr (.inl g.nw))), (r 27, .inl (cI, 4, .inl g.wt)), (r 28, .inl (cI, 16, .inl g.ty)), (r 29, .inl (cI, 16, .inl g.sp)), (r 30, .inl (cJ, 24, .inr (.inl g.z.1))), (r 31, .inl (cI, 24, .inl g.z.2.1)), (r 32, .inl (cZ, 24, .inl g.z.2.2.1)), (r 33, .inl (cJ, 24, .inr (.inl g.z.2.2.2))), (r 34, .inl (cI, 24, .inl (upd (upd (upd (kpI g ng o.oI j) (6 * j) (if j < ng then g.nu j else 0)) (6 * j + 1) (g.pi j)) (6 * j + 2) (g.vs j)))), (r 35, .inl (cZ, 4, .inl (cpB o.oA g.aw j))), (r 36, .inl (cJ, 4, .inr (.inl (cpL o.oW g.nw j)))), (r 37, .inl (cI, 16, .inl (cpA o.oT g.ty 0))), (r 38, .inl (cI, 16, .inl (cpA o.oS g.sp 0))), (r 39, .inl (cJ, 24, .inr (.inl (cpL o.z.1 g.z.1 0)))), (r 40, .inl (cI, 24, .inl (cpA o.z.2.1 g.z.2.1 0))), (r 41, .inl (cZ, 24, .inl (cpB o.z.2.2.1 g.z.2.2.1 0))), (r 42, .inl (cJ, 24, .inr (.inl (cpL o.z.2.2.2 g.z.2.2.2 0))))] H := hP
        have hD : va_D A [(h, .inr (13, mO r th si le lv (nI ng) pn pl rs)), (r 20, .inl (cI, 4, .inl g.nu)), (r 21, .inl (cI, 4, .inl g.pi)), (r 22, .inl (cI, 4, .inl g.vs)), (r 23, .inl (cI, 4, .inl g.cp)), (r 24, .inl (cI, 4, .inl g.sc)), (r 25, .inl (cZ, 4, .inl g.aw)), (r 26, .inl (cJ, 4, .inr (.inl g.nw))), (r 27, .inl (cI, 4, .inl g.wt)), (r 28, .inl (cI, 16, .inl g.ty)), (r 29, .inl (cI, 16, .inl g.sp)), (r 30, .inl (cJ, 24, .inr (.inl g.z.1))), (r 31, .inl (cI, 24, .inl g.z.2.1)), (r 32, .inl (cZ, 24, .inl g.z.2.2.1)), (r 33, .inl (cJ, 24, .inr (.inl g.z.2.2.2))), (r 34, .inl (cI, 24, .inl (upd (upd (upd (kpI g ng o.oI j) (6 * j) (if j < ng then g.nu j else 0)) (6 * j + 1) (g.pi j)) (6 * j + 2) (g.vs j)))), (r 35, .inl (cZ, 4, .inl (cpB o.oA g.aw j))), (r 36, .inl (cJ, 4, .inr (.inl (cpL o.oW g.nw j)))), (r 37, .inl (cI, 16, .inl (cpA o.oT g.ty 0))), (r 38, .inl (cI, 16, .inl (cpA o.oS g.sp 0))), (r 39, .inl (cJ, 24, .inr (.inl (cpL o.z.1 g.z.1 0)))), (r 40, .inl (cI, 24, .inl (cpA o.z.2.1 g.z.2.1 0))), (r 41, .inl (cZ, 24, .inl (cpB o.z.2.2.1 g.z.2.2.1 0))), (r 42, .inl (cJ, 24, .inr (.inl (cpL o.z.2.2.2 g.z.2.2.2 0))))] := hD
        refine lv_aload_n hx hb d_Mo_keepOld_68 rfl (lv_at hl 0 rfl) ?_
        refine va_get (D := D) (ci := 13) (v := .ref (r 34)) (C := R_Mo) (T := F_Mo) (N := 54) hx hb hts i_Mo hown hK hP 0 rfl rfl 34 (by decide) (hts _ wd_1122) (fun _ h9 => h9) rfl d_Mo_keepOld_69 ?_
        refine lv_bipush (v := 6) hx hb d_Mo_keepOld_72 (by decide) ?_
        refine lv_iload_n hx hb d_Mo_keepOld_74 rfl (lv_at hl 1 rfl) ?_
        refine lv_imul hx hb d_Mo_keepOld_75 ?_
        refine z_topi (w := nI (6 * j)) (pk_mul 6 _) ?_
        refine lv_iconst (v := 3) hx hb d_Mo_keepOld_76 (by decide) ?_
        refine lv_iadd hx hb d_Mo_keepOld_77 ?_
        refine z_topi (w := nI (6 * j + 3)) (nI_add _ 3) ?_
        refine lv_aload_n hx hb d_Mo_keepOld_78 rfl (lv_at hl 0 rfl) ?_
        refine va_get (D := D) (ci := 13) (v := .ref (r 23)) (C := R_Mo) (T := F_Mo) (N := 54) hx hb hts i_Mo hown hK hP 0 rfl rfl 23 (by decide) (hts _ wd_1111) (fun _ h9 => h9) rfl d_Mo_keepOld_79 ?_
        refine lv_iload_n hx hb d_Mo_keepOld_82 rfl (lv_at hl 1 rfl) ?_
        refine z_iald hx hb hK hP 4 0 rfl rfl j rfl (by omega) (by omega) d_Mo_keepOld_83 ?_
        refine z_iast hx hb hK hP hD hS 15 0 rfl rfl (6 * j + 3) rfl (by omega) (by omega) d_Mo_keepOld_84 (fun H locs hP hD hS => ?_)
        have hP : va_P D classes [(h, .inr (13, mO r th si le lv (nI ng) pn pl rs)), (r 20, .inl (cI, 4, .inl g.nu)), (r 21, .inl (cI, 4, .inl g.pi)), (r 22, .inl (cI, 4, .inl g.vs)), (r 23, .inl (cI, 4, .inl g.cp)), (r 24, .inl (cI, 4, .inl g.sc)), (r 25, .inl (cZ, 4, .inl g.aw)), (r 26, .inl (cJ, 4, .inr (.inl g.nw))), (r 27, .inl (cI, 4, .inl g.wt)), (r 28, .inl (cI, 16, .inl g.ty)), (r 29, .inl (cI, 16, .inl g.sp)), (r 30, .inl (cJ, 24, .inr (.inl g.z.1))), (r 31, .inl (cI, 24, .inl g.z.2.1)), (r 32, .inl (cZ, 24, .inl g.z.2.2.1)), (r 33, .inl (cJ, 24, .inr (.inl g.z.2.2.2))), (r 34, .inl (cI, 24, .inl (upd (upd (upd (upd (kpI g ng o.oI j) (6 * j) (if j < ng then g.nu j else 0)) (6 * j + 1) (g.pi j)) (6 * j + 2) (g.vs j)) (6 * j + 3) (g.cp j)))), (r 35, .inl (cZ, 4, .inl (cpB o.oA g.aw j))), (r 36, .inl (cJ, 4, .inr (.inl (cpL o.oW g.nw j)))), (r 37, .inl (cI, 16, .inl (cpA o.oT g.ty 0))), (r 38, .inl (cI, 16, .inl (cpA o.oS g.sp 0))), (r 39, .inl (cJ, 24, .inr (.inl (cpL o.z.1 g.z.1 0)))), (r 40, .inl (cI, 24, .inl (cpA o.z.2.1 g.z.2.1 0))), (r 41, .inl (cZ, 24, .inl (cpB o.z.2.2.1 g.z.2.2.1 0))), (r 42, .inl (cJ, 24, .inr (.inl (cpL o.z.2.2.2 g.z.2.2.2 0))))] H := hP
        have hD : va_D A [(h, .inr (13, mO r th si le lv (nI ng) pn pl rs)), (r 20, .inl (cI, 4, .inl g.nu)), (r 21, .inl (cI, 4, .inl g.pi)), (r 22, .inl (cI, 4, .inl g.vs)), (r 23, .inl (cI, 4, .inl g.cp)), (r 24, .inl (cI, 4, .inl g.sc)), (r 25, .inl (cZ, 4, .inl g.aw)), (r 26, .inl (cJ, 4, .inr (.inl g.nw))), (r 27, .inl (cI, 4, .inl g.wt)), (r 28, .inl (cI, 16, .inl g.ty)), (r 29, .inl (cI, 16, .inl g.sp)), (r 30, .inl (cJ, 24, .inr (.inl g.z.1))), (r 31, .inl (cI, 24, .inl g.z.2.1)), (r 32, .inl (cZ, 24, .inl g.z.2.2.1)), (r 33, .inl (cJ, 24, .inr (.inl g.z.2.2.2))), (r 34, .inl (cI, 24, .inl (upd (upd (upd (upd (kpI g ng o.oI j) (6 * j) (if j < ng then g.nu j else 0)) (6 * j + 1) (g.pi j)) (6 * j + 2) (g.vs j)) (6 * j + 3) (g.cp j)))), (r 35, .inl (cZ, 4, .inl (cpB o.oA g.aw j))), (r 36, .inl (cJ, 4, .inr (.inl (cpL o.oW g.nw j)))), (r 37, .inl (cI, 16, .inl (cpA o.oT g.ty 0))), (r 38, .inl (cI, 16, .inl (cpA o.oS g.sp 0))), (r 39, .inl (cJ, 24, .inr (.inl (cpL o.z.1 g.z.1 0)))), (r 40, .inl (cI, 24, .inl (cpA o.z.2.1 g.z.2.1 0))), (r 41, .inl (cZ, 24, .inl (cpB o.z.2.2.1 g.z.2.2.1 0))), (r 42, .inl (cJ, 24, .inr (.inl (cpL o.z.2.2.2 g.z.2.2.2 0))))] := hD
        refine lv_aload_n hx hb d_Mo_keepOld_85 rfl (lv_at hl 0 rfl) ?_
        refine va_get (D := D) (ci := 13) (v := .ref (r 34)) (C := R_Mo) (T := F_Mo) (N := 54) hx hb hts i_Mo hown hK hP 0 rfl rfl 34 (by decide) (hts _ wd_1122) (fun _ h9 => h9) rfl d_Mo_keepOld_86 ?_
        refine lv_bipush (v := 6) hx hb d_Mo_keepOld_89 (by decide) ?_
        refine lv_iload_n hx hb d_Mo_keepOld_91 rfl (lv_at hl 1 rfl) ?_
        refine lv_imul hx hb d_Mo_keepOld_92 ?_
        refine z_topi (w := nI (6 * j)) (pk_mul 6 _) ?_
        refine lv_iconst (v := 4) hx hb d_Mo_keepOld_93 (by decide) ?_
        refine lv_iadd hx hb d_Mo_keepOld_94 ?_
        refine z_topi (w := nI (6 * j + 4)) (nI_add _ 4) ?_
        refine lv_aload_n hx hb d_Mo_keepOld_95 rfl (lv_at hl 0 rfl) ?_
        refine va_get (D := D) (ci := 13) (v := .ref (r 24)) (C := R_Mo) (T := F_Mo) (N := 54) hx hb hts i_Mo hown hK hP 0 rfl rfl 24 (by decide) (hts _ wd_1112) (fun _ h9 => h9) rfl d_Mo_keepOld_96 ?_
        refine lv_iload_n hx hb d_Mo_keepOld_99 rfl (lv_at hl 1 rfl) ?_
        refine z_iald hx hb hK hP 5 0 rfl rfl j rfl (by omega) (by omega) d_Mo_keepOld_100 ?_
        refine z_iast hx hb hK hP hD hS 15 0 rfl rfl (6 * j + 4) rfl (by omega) (by omega) d_Mo_keepOld_101 (fun H locs hP hD hS => ?_)
        have hP : va_P D classes [(h, .inr (13, mO r th si le lv (nI ng) pn pl rs)), (r 20, .inl (cI, 4, .inl g.nu)), (r 21, .inl (cI, 4, .inl g.pi)), (r 22, .inl (cI, 4, .inl g.vs)), (r 23, .inl (cI, 4, .inl g.cp)), (r 24, .inl (cI, 4, .inl g.sc)), (r 25, .inl (cZ, 4, .inl g.aw)), (r 26, .inl (cJ, 4, .inr (.inl g.nw))), (r 27, .inl (cI, 4, .inl g.wt)), (r 28, .inl (cI, 16, .inl g.ty)), (r 29, .inl (cI, 16, .inl g.sp)), (r 30, .inl (cJ, 24, .inr (.inl g.z.1))), (r 31, .inl (cI, 24, .inl g.z.2.1)), (r 32, .inl (cZ, 24, .inl g.z.2.2.1)), (r 33, .inl (cJ, 24, .inr (.inl g.z.2.2.2))), (r 34, .inl (cI, 24, .inl (upd (upd (upd (upd (upd (kpI g ng o.oI j) (6 * j) (if j < ng then g.nu j else 0)) (6 * j + 1) (g.pi j)) (6 * j + 2) (g.vs j)) (6 * j + 3) (g.cp j)) (6 * j + 4) (g.sc j)))), (r 35, .inl (cZ, 4, .inl (cpB o.oA g.aw j))), (r 36, .inl (cJ, 4, .inr (.inl (cpL o.oW g.nw j)))), (r 37, .inl (cI, 16, .inl (cpA o.oT g.ty 0))), (r 38, .inl (cI, 16, .inl (cpA o.oS g.sp 0))), (r 39, .inl (cJ, 24, .inr (.inl (cpL o.z.1 g.z.1 0)))), (r 40, .inl (cI, 24, .inl (cpA o.z.2.1 g.z.2.1 0))), (r 41, .inl (cZ, 24, .inl (cpB o.z.2.2.1 g.z.2.2.1 0))), (r 42, .inl (cJ, 24, .inr (.inl (cpL o.z.2.2.2 g.z.2.2.2 0))))] H := hP
        have hD : va_D A [(h, .inr (13, mO r th si le lv (nI ng) pn pl rs)), (r 20, .inl (cI, 4, .inl g.nu)), (r 21, .inl (cI, 4, .inl g.pi)), (r 22, .inl (cI, 4, .inl g.vs)), (r 23, .inl (cI, 4, .inl g.cp)), (r 24, .inl (cI, 4, .inl g.sc)), (r 25, .inl (cZ, 4, .inl g.aw)), (r 26, .inl (cJ, 4, .inr (.inl g.nw))), (r 27, .inl (cI, 4, .inl g.wt)), (r 28, .inl (cI, 16, .inl g.ty)), (r 29, .inl (cI, 16, .inl g.sp)), (r 30, .inl (cJ, 24, .inr (.inl g.z.1))), (r 31, .inl (cI, 24, .inl g.z.2.1)), (r 32, .inl (cZ, 24, .inl g.z.2.2.1)), (r 33, .inl (cJ, 24, .inr (.inl g.z.2.2.2))), (r 34, .inl (cI, 24, .inl (upd (upd (upd (upd (upd (kpI g ng o.oI j) (6 * j) (if j < ng then g.nu j else 0)) (6 * j + 1) (g.pi j)) (6 * j + 2) (g.vs j)) (6 * j + 3) (g.cp j)) (6 * j + 4) (g.sc j)))), (r 35, .inl (cZ, 4, .inl (cpB o.oA g.aw j))), (r 36, .inl (cJ, 4, .inr (.inl (cpL o.oW g.nw j)))), (r 37, .inl (cI, 16, .inl (cpA o.oT g.ty 0))), (r 38, .inl (cI, 16, .inl (cpA o.oS g.sp 0))), (r 39, .inl (cJ, 24, .inr (.inl (cpL o.z.1 g.z.1 0)))), (r 40, .inl (cI, 24, .inl (cpA o.z.2.1 g.z.2.1 0))), (r 41, .inl (cZ, 24, .inl (cpB o.z.2.2.1 g.z.2.2.1 0))), (r 42, .inl (cJ, 24, .inr (.inl (cpL o.z.2.2.2 g.z.2.2.2 0))))] := hD
        refine lv_aload_n hx hb d_Mo_keepOld_102 rfl (lv_at hl 0 rfl) ?_
        refine va_get (D := D) (ci := 13) (v := .ref (r 34)) (C := R_Mo) (T := F_Mo) (N := 54) hx hb hts i_Mo hown hK hP 0 rfl rfl 34 (by decide) (hts _ wd_1122) (fun _ h9 => h9) rfl d_Mo_keepOld_103 ?_
        refine lv_bipush (v := 6) hx hb d_Mo_keepOld_106 (by decide) ?_
        refine lv_iload_n hx hb d_Mo_keepOld_108 rfl (lv_at hl 1 rfl) ?_
        refine lv_imul hx hb d_Mo_keepOld_109 ?_
        refine z_topi (w := nI (6 * j)) (pk_mul 6 _) ?_
        refine lv_iconst (v := 5) hx hb d_Mo_keepOld_110 (by decide) ?_
        refine lv_iadd hx hb d_Mo_keepOld_111 ?_
        refine z_topi (w := nI (6 * j + 5)) (nI_add _ 5) ?_
        refine lv_aload_n hx hb d_Mo_keepOld_112 rfl (lv_at hl 0 rfl) ?_
        refine va_get (D := D) (ci := 13) (v := .ref (r 27)) (C := R_Mo) (T := F_Mo) (N := 54) hx hb hts i_Mo hown hK hP 0 rfl rfl 27 (by decide) (hts _ wd_1115) (fun _ h9 => h9) rfl d_Mo_keepOld_113 ?_
        refine lv_iload_n hx hb d_Mo_keepOld_116 rfl (lv_at hl 1 rfl) ?_
        refine z_iald hx hb hK hP 8 0 rfl rfl j rfl (by omega) (by omega) d_Mo_keepOld_117 ?_
        refine z_iast hx hb hK hP hD hS 15 0 rfl rfl (6 * j + 5) rfl (by omega) (by omega) d_Mo_keepOld_118 (fun H locs hP hD hS => ?_)
        have hP : va_P D classes [(h, .inr (13, mO r th si le lv (nI ng) pn pl rs)), (r 20, .inl (cI, 4, .inl g.nu)), (r 21, .inl (cI, 4, .inl g.pi)), (r 22, .inl (cI, 4, .inl g.vs)), (r 23, .inl (cI, 4, .inl g.cp)), (r 24, .inl (cI, 4, .inl g.sc)), (r 25, .inl (cZ, 4, .inl g.aw)), (r 26, .inl (cJ, 4, .inr (.inl g.nw))), (r 27, .inl (cI, 4, .inl g.wt)), (r 28, .inl (cI, 16, .inl g.ty)), (r 29, .inl (cI, 16, .inl g.sp)), (r 30, .inl (cJ, 24, .inr (.inl g.z.1))), (r 31, .inl (cI, 24, .inl g.z.2.1)), (r 32, .inl (cZ, 24, .inl g.z.2.2.1)), (r 33, .inl (cJ, 24, .inr (.inl g.z.2.2.2))), (r 34, .inl (cI, 24, .inl (upd (upd (upd (upd (upd (upd (kpI g ng o.oI j) (6 * j) (if j < ng then g.nu j else 0)) (6 * j + 1) (g.pi j)) (6 * j + 2) (g.vs j)) (6 * j + 3) (g.cp j)) (6 * j + 4) (g.sc j)) (6 * j + 5) (g.wt j)))), (r 35, .inl (cZ, 4, .inl (cpB o.oA g.aw j))), (r 36, .inl (cJ, 4, .inr (.inl (cpL o.oW g.nw j)))), (r 37, .inl (cI, 16, .inl (cpA o.oT g.ty 0))), (r 38, .inl (cI, 16, .inl (cpA o.oS g.sp 0))), (r 39, .inl (cJ, 24, .inr (.inl (cpL o.z.1 g.z.1 0)))), (r 40, .inl (cI, 24, .inl (cpA o.z.2.1 g.z.2.1 0))), (r 41, .inl (cZ, 24, .inl (cpB o.z.2.2.1 g.z.2.2.1 0))), (r 42, .inl (cJ, 24, .inr (.inl (cpL o.z.2.2.2 g.z.2.2.2 0))))] H := hP
        have hD : va_D A [(h, .inr (13, mO r th si le lv (nI ng) pn pl rs)), (r 20, .inl (cI, 4, .inl g.nu)), (r 21, .inl (cI, 4, .inl g.pi)), (r 22, .inl (cI, 4, .inl g.vs)), (r 23, .inl (cI, 4, .inl g.cp)), (r 24, .inl (cI, 4, .inl g.sc)), (r 25, .inl (cZ, 4, .inl g.aw)), (r 26, .inl (cJ, 4, .inr (.inl g.nw))), (r 27, .inl (cI, 4, .inl g.wt)), (r 28, .inl (cI, 16, .inl g.ty)), (r 29, .inl (cI, 16, .inl g.sp)), (r 30, .inl (cJ, 24, .inr (.inl g.z.1))), (r 31, .inl (cI, 24, .inl g.z.2.1)), (r 32, .inl (cZ, 24, .inl g.z.2.2.1)), (r 33, .inl (cJ, 24, .inr (.inl g.z.2.2.2))), (r 34, .inl (cI, 24, .inl (upd (upd (upd (upd (upd (upd (kpI g ng o.oI j) (6 * j) (if j < ng then g.nu j else 0)) (6 * j + 1) (g.pi j)) (6 * j + 2) (g.vs j)) (6 * j + 3) (g.cp j)) (6 * j + 4) (g.sc j)) (6 * j + 5) (g.wt j)))), (r 35, .inl (cZ, 4, .inl (cpB o.oA g.aw j))), (r 36, .inl (cJ, 4, .inr (.inl (cpL o.oW g.nw j)))), (r 37, .inl (cI, 16, .inl (cpA o.oT g.ty 0))), (r 38, .inl (cI, 16, .inl (cpA o.oS g.sp 0))), (r 39, .inl (cJ, 24, .inr (.inl (cpL o.z.1 g.z.1 0)))), (r 40, .inl (cI, 24, .inl (cpA o.z.2.1 g.z.2.1 0))), (r 41, .inl (cZ, 24, .inl (cpB o.z.2.2.1 g.z.2.2.1 0))), (r 42, .inl (cJ, 24, .inr (.inl (cpL o.z.2.2.2 g.z.2.2.2 0))))] := hD
        refine lv_aload_n hx hb d_Mo_keepOld_119 rfl (lv_at hl 0 rfl) ?_
        refine va_get (D := D) (ci := 13) (v := .ref (r 35)) (C := R_Mo) (T := F_Mo) (N := 54) hx hb hts i_Mo hown hK hP 0 rfl rfl 35 (by decide) (hts _ wd_1123) (fun _ h9 => h9) rfl d_Mo_keepOld_120 ?_
        refine lv_iload_n hx hb d_Mo_keepOld_123 rfl (lv_at hl 1 rfl) ?_
        refine lv_aload_n hx hb d_Mo_keepOld_124 rfl (lv_at hl 0 rfl) ?_
        refine va_get (D := D) (ci := 13) (v := .ref (r 25)) (C := R_Mo) (T := F_Mo) (N := 54) hx hb hts i_Mo hown hK hP 0 rfl rfl 25 (by decide) (hts _ wd_1113) (fun _ h9 => h9) rfl d_Mo_keepOld_125 ?_
        refine lv_iload_n hx hb d_Mo_keepOld_128 rfl (lv_at hl 1 rfl) ?_
        refine z_zald hx hb hK hP 6 2 rfl rfl j rfl (by omega) (by omega) d_Mo_keepOld_129 ?_
        refine z_zast hx hb hK hP hD hS 16 2 rfl rfl j rfl (by omega) (by omega) d_Mo_keepOld_130 (fun H locs hP hD hS => ?_)
        have hP : va_P D classes [(h, .inr (13, mO r th si le lv (nI ng) pn pl rs)), (r 20, .inl (cI, 4, .inl g.nu)), (r 21, .inl (cI, 4, .inl g.pi)), (r 22, .inl (cI, 4, .inl g.vs)), (r 23, .inl (cI, 4, .inl g.cp)), (r 24, .inl (cI, 4, .inl g.sc)), (r 25, .inl (cZ, 4, .inl g.aw)), (r 26, .inl (cJ, 4, .inr (.inl g.nw))), (r 27, .inl (cI, 4, .inl g.wt)), (r 28, .inl (cI, 16, .inl g.ty)), (r 29, .inl (cI, 16, .inl g.sp)), (r 30, .inl (cJ, 24, .inr (.inl g.z.1))), (r 31, .inl (cI, 24, .inl g.z.2.1)), (r 32, .inl (cZ, 24, .inl g.z.2.2.1)), (r 33, .inl (cJ, 24, .inr (.inl g.z.2.2.2))), (r 34, .inl (cI, 24, .inl (upd (upd (upd (upd (upd (upd (kpI g ng o.oI j) (6 * j) (if j < ng then g.nu j else 0)) (6 * j + 1) (g.pi j)) (6 * j + 2) (g.vs j)) (6 * j + 3) (g.cp j)) (6 * j + 4) (g.sc j)) (6 * j + 5) (g.wt j)))), (r 35, .inl (cZ, 4, .inl (upd (cpB o.oA g.aw j) j (vp_nar .boolean (g.aw j))))), (r 36, .inl (cJ, 4, .inr (.inl (cpL o.oW g.nw j)))), (r 37, .inl (cI, 16, .inl (cpA o.oT g.ty 0))), (r 38, .inl (cI, 16, .inl (cpA o.oS g.sp 0))), (r 39, .inl (cJ, 24, .inr (.inl (cpL o.z.1 g.z.1 0)))), (r 40, .inl (cI, 24, .inl (cpA o.z.2.1 g.z.2.1 0))), (r 41, .inl (cZ, 24, .inl (cpB o.z.2.2.1 g.z.2.2.1 0))), (r 42, .inl (cJ, 24, .inr (.inl (cpL o.z.2.2.2 g.z.2.2.2 0))))] H := hP
        have hD : va_D A [(h, .inr (13, mO r th si le lv (nI ng) pn pl rs)), (r 20, .inl (cI, 4, .inl g.nu)), (r 21, .inl (cI, 4, .inl g.pi)), (r 22, .inl (cI, 4, .inl g.vs)), (r 23, .inl (cI, 4, .inl g.cp)), (r 24, .inl (cI, 4, .inl g.sc)), (r 25, .inl (cZ, 4, .inl g.aw)), (r 26, .inl (cJ, 4, .inr (.inl g.nw))), (r 27, .inl (cI, 4, .inl g.wt)), (r 28, .inl (cI, 16, .inl g.ty)), (r 29, .inl (cI, 16, .inl g.sp)), (r 30, .inl (cJ, 24, .inr (.inl g.z.1))), (r 31, .inl (cI, 24, .inl g.z.2.1)), (r 32, .inl (cZ, 24, .inl g.z.2.2.1)), (r 33, .inl (cJ, 24, .inr (.inl g.z.2.2.2))), (r 34, .inl (cI, 24, .inl (upd (upd (upd (upd (upd (upd (kpI g ng o.oI j) (6 * j) (if j < ng then g.nu j else 0)) (6 * j + 1) (g.pi j)) (6 * j + 2) (g.vs j)) (6 * j + 3) (g.cp j)) (6 * j + 4) (g.sc j)) (6 * j + 5) (g.wt j)))), (r 35, .inl (cZ, 4, .inl (upd (cpB o.oA g.aw j) j (vp_nar .boolean (g.aw j))))), (r 36, .inl (cJ, 4, .inr (.inl (cpL o.oW g.nw j)))), (r 37, .inl (cI, 16, .inl (cpA o.oT g.ty 0))), (r 38, .inl (cI, 16, .inl (cpA o.oS g.sp 0))), (r 39, .inl (cJ, 24, .inr (.inl (cpL o.z.1 g.z.1 0)))), (r 40, .inl (cI, 24, .inl (cpA o.z.2.1 g.z.2.1 0))), (r 41, .inl (cZ, 24, .inl (cpB o.z.2.2.1 g.z.2.2.1 0))), (r 42, .inl (cJ, 24, .inr (.inl (cpL o.z.2.2.2 g.z.2.2.2 0))))] := hD
        refine lv_aload_n hx hb d_Mo_keepOld_131 rfl (lv_at hl 0 rfl) ?_
        refine va_get (D := D) (ci := 13) (v := .ref (r 36)) (C := R_Mo) (T := F_Mo) (N := 54) hx hb hts i_Mo hown hK hP 0 rfl rfl 36 (by decide) (hts _ wd_1124) (fun _ h9 => h9) rfl d_Mo_keepOld_132 ?_
        refine lv_iload_n hx hb d_Mo_keepOld_135 rfl (lv_at hl 1 rfl) ?_
        refine lv_aload_n hx hb d_Mo_keepOld_136 rfl (lv_at hl 0 rfl) ?_
        refine va_get (D := D) (ci := 13) (v := .ref (r 26)) (C := R_Mo) (T := F_Mo) (N := 54) hx hb hts i_Mo hown hK hP 0 rfl rfl 26 (by decide) (hts _ wd_1114) (fun _ h9 => h9) rfl d_Mo_keepOld_137 ?_
        refine lv_iload_n hx hb d_Mo_keepOld_140 rfl (lv_at hl 1 rfl) ?_
        refine z_lald hx hb hK hP 7 1 rfl rfl j rfl (by omega) (by omega) d_Mo_keepOld_141 ?_
        refine z_last hx hb hK hP hD hS 17 1 rfl rfl j rfl (by omega) (by omega) d_Mo_keepOld_142 (fun H locs hP hD hS => ?_)
        have hP : va_P D classes [(h, .inr (13, mO r th si le lv (nI ng) pn pl rs)), (r 20, .inl (cI, 4, .inl g.nu)), (r 21, .inl (cI, 4, .inl g.pi)), (r 22, .inl (cI, 4, .inl g.vs)), (r 23, .inl (cI, 4, .inl g.cp)), (r 24, .inl (cI, 4, .inl g.sc)), (r 25, .inl (cZ, 4, .inl g.aw)), (r 26, .inl (cJ, 4, .inr (.inl g.nw))), (r 27, .inl (cI, 4, .inl g.wt)), (r 28, .inl (cI, 16, .inl g.ty)), (r 29, .inl (cI, 16, .inl g.sp)), (r 30, .inl (cJ, 24, .inr (.inl g.z.1))), (r 31, .inl (cI, 24, .inl g.z.2.1)), (r 32, .inl (cZ, 24, .inl g.z.2.2.1)), (r 33, .inl (cJ, 24, .inr (.inl g.z.2.2.2))), (r 34, .inl (cI, 24, .inl (upd (upd (upd (upd (upd (upd (kpI g ng o.oI j) (6 * j) (if j < ng then g.nu j else 0)) (6 * j + 1) (g.pi j)) (6 * j + 2) (g.vs j)) (6 * j + 3) (g.cp j)) (6 * j + 4) (g.sc j)) (6 * j + 5) (g.wt j)))), (r 35, .inl (cZ, 4, .inl (upd (cpB o.oA g.aw j) j (vp_nar .boolean (g.aw j))))), (r 36, .inl (cJ, 4, .inr (.inl (vp_updL (cpL o.oW g.nw j) j (g.nw j))))), (r 37, .inl (cI, 16, .inl (cpA o.oT g.ty 0))), (r 38, .inl (cI, 16, .inl (cpA o.oS g.sp 0))), (r 39, .inl (cJ, 24, .inr (.inl (cpL o.z.1 g.z.1 0)))), (r 40, .inl (cI, 24, .inl (cpA o.z.2.1 g.z.2.1 0))), (r 41, .inl (cZ, 24, .inl (cpB o.z.2.2.1 g.z.2.2.1 0))), (r 42, .inl (cJ, 24, .inr (.inl (cpL o.z.2.2.2 g.z.2.2.2 0))))] H := hP
        have hD : va_D A [(h, .inr (13, mO r th si le lv (nI ng) pn pl rs)), (r 20, .inl (cI, 4, .inl g.nu)), (r 21, .inl (cI, 4, .inl g.pi)), (r 22, .inl (cI, 4, .inl g.vs)), (r 23, .inl (cI, 4, .inl g.cp)), (r 24, .inl (cI, 4, .inl g.sc)), (r 25, .inl (cZ, 4, .inl g.aw)), (r 26, .inl (cJ, 4, .inr (.inl g.nw))), (r 27, .inl (cI, 4, .inl g.wt)), (r 28, .inl (cI, 16, .inl g.ty)), (r 29, .inl (cI, 16, .inl g.sp)), (r 30, .inl (cJ, 24, .inr (.inl g.z.1))), (r 31, .inl (cI, 24, .inl g.z.2.1)), (r 32, .inl (cZ, 24, .inl g.z.2.2.1)), (r 33, .inl (cJ, 24, .inr (.inl g.z.2.2.2))), (r 34, .inl (cI, 24, .inl (upd (upd (upd (upd (upd (upd (kpI g ng o.oI j) (6 * j) (if j < ng then g.nu j else 0)) (6 * j + 1) (g.pi j)) (6 * j + 2) (g.vs j)) (6 * j + 3) (g.cp j)) (6 * j + 4) (g.sc j)) (6 * j + 5) (g.wt j)))), (r 35, .inl (cZ, 4, .inl (upd (cpB o.oA g.aw j) j (vp_nar .boolean (g.aw j))))), (r 36, .inl (cJ, 4, .inr (.inl (vp_updL (cpL o.oW g.nw j) j (g.nw j))))), (r 37, .inl (cI, 16, .inl (cpA o.oT g.ty 0))), (r 38, .inl (cI, 16, .inl (cpA o.oS g.sp 0))), (r 39, .inl (cJ, 24, .inr (.inl (cpL o.z.1 g.z.1 0)))), (r 40, .inl (cI, 24, .inl (cpA o.z.2.1 g.z.2.1 0))), (r 41, .inl (cZ, 24, .inl (cpB o.z.2.2.1 g.z.2.2.1 0))), (r 42, .inl (cJ, 24, .inr (.inl (cpL o.z.2.2.2 g.z.2.2.2 0))))] := hD
        refine lv_iinc (k := 1) (v := nI (j + 1)) (lv' := [(1, .int (nI (j + 1))), (0, .ref h)]) hx hb d_Mo_keepOld_143 hl rfl (nI_1 j) (by decide) rfl (fun ls hl => ?_)
        refine lv_goto (tgt := 2) hx hb d_Mo_keepOld_146 rfl ?_
        exact ih2 (j + 1) H locs ls (by omega) (by omega) (lv_sub hl [1, 0] rfl) hP hD hS
  exact loop2 _ 0 s.heap [] ls (Nat.lt_succ_self _) (Nat.zero_le _) (lv_sub hl [1, 0] rfl) hP hD hS
set_option maxHeartbeats 4000000 in
set_option maxRecDepth 100000 in
theorem c_Mo_asBefore (l : Launch) (D : va_G) (sz : Nat) (cI : ClassId) (h : Nat) (r : Nat → Nat) (th si le lv pg pn pl rs : Int32) (cJ cZ : ClassId) (g : PG) (o : OG) (k d : Nat) (hk : k < 4) (hd : d < 4) : Met l y_Mo_asBefore [Cond.code y_Mo_asBefore b_Mo_asBefore 4 none] ({ frames := 0, cells := 0, slots := 0, locals := 0 }) (zM [.ref h, .int (nI k), .int (nI d)] D [(h, .inr (13, mO r th si le lv pg pn pl rs)), (r 20, .inl (cI, 4, .inl g.nu)), (r 21, .inl (cI, 4, .inl g.pi)), (r 22, .inl (cI, 4, .inl g.vs)), (r 23, .inl (cI, 4, .inl g.cp)), (r 24, .inl (cI, 4, .inl g.sc)), (r 25, .inl (cZ, 4, .inl g.aw)), (r 26, .inl (cJ, 4, .inr (.inl g.nw))), (r 27, .inl (cI, 4, .inl g.wt)), (r 28, .inl (cI, 16, .inl g.ty)), (r 29, .inl (cI, 16, .inl g.sp)), (r 30, .inl (cJ, 24, .inr (.inl g.z.1))), (r 31, .inl (cI, 24, .inl g.z.2.1)), (r 32, .inl (cZ, 24, .inl g.z.2.2.1)), (r 33, .inl (cJ, 24, .inr (.inl g.z.2.2.2))), (r 34, .inl (cI, 24, .inl o.oI)), (r 35, .inl (cZ, 4, .inl o.oA)), (r 36, .inl (cJ, 4, .inr (.inl o.oW))), (r 37, .inl (cI, 16, .inl o.oT)), (r 38, .inl (cI, 16, .inl o.oS)), (r 39, .inl (cJ, 24, .inr (.inl o.z.1))), (r 40, .inl (cI, 24, .inl o.z.2.1)), (r 41, .inl (cZ, 24, .inl o.z.2.2.1)), (r 42, .inl (cJ, 24, .inr (.inl o.z.2.2.2)))] [(cI, .int), (cJ, .long), (cZ, .boolean)] sz) (va_Qv (fun (_ : Unit) => True) (fun (_u : Unit) t => zW D (va_A [(h, .inr (13, mO r th si le lv pg pn pl rs)), (r 20, .inl (cI, 4, .inl g.nu)), (r 21, .inl (cI, 4, .inl g.pi)), (r 22, .inl (cI, 4, .inl g.vs)), (r 23, .inl (cI, 4, .inl g.cp)), (r 24, .inl (cI, 4, .inl g.sc)), (r 25, .inl (cZ, 4, .inl g.aw)), (r 26, .inl (cJ, 4, .inr (.inl g.nw))), (r 27, .inl (cI, 4, .inl g.wt)), (r 28, .inl (cI, 16, .inl g.ty)), (r 29, .inl (cI, 16, .inl g.sp)), (r 30, .inl (cJ, 24, .inr (.inl g.z.1))), (r 31, .inl (cI, 24, .inl g.z.2.1)), (r 32, .inl (cZ, 24, .inl g.z.2.2.1)), (r 33, .inl (cJ, 24, .inr (.inl g.z.2.2.2))), (r 34, .inl (cI, 24, .inl o.oI)), (r 35, .inl (cZ, 4, .inl o.oA)), (r 36, .inl (cJ, 4, .inr (.inl o.oW))), (r 37, .inl (cI, 16, .inl o.oT)), (r 38, .inl (cI, 16, .inl o.oS)), (r 39, .inl (cJ, 24, .inr (.inl o.z.1))), (r 40, .inl (cI, 24, .inl o.z.2.1)), (r 41, .inl (cZ, 24, .inl o.z.2.2.1)), (r 42, .inl (cJ, 24, .inr (.inl o.z.2.2.2)))] sz) [(h, .inr (13, mO r th si le lv pg pn pl rs)), (r 20, .inl (cI, 4, .inl ((asB g o k d).nu))), (r 21, .inl (cI, 4, .inl ((asB g o k d).pi))), (r 22, .inl (cI, 4, .inl ((asB g o k d).vs))), (r 23, .inl (cI, 4, .inl ((asB g o k d).cp))), (r 24, .inl (cI, 4, .inl ((asB g o k d).sc))), (r 25, .inl (cZ, 4, .inl ((asB g o k d).aw))), (r 26, .inl (cJ, 4, .inr (.inl ((asB g o k d).nw)))), (r 27, .inl (cI, 4, .inl ((asB g o k d).wt))), (r 28, .inl (cI, 16, .inl ((asB g o k d).ty))), (r 29, .inl (cI, 16, .inl ((asB g o k d).sp))), (r 30, .inl (cJ, 24, .inr (.inl ((asB g o k d).z.1)))), (r 31, .inl (cI, 24, .inl ((asB g o k d).z.2.1))), (r 32, .inl (cZ, 24, .inl ((asB g o k d).z.2.2.1))), (r 33, .inl (cJ, 24, .inr (.inl ((asB g o k d).z.2.2.2)))), (r 34, .inl (cI, 24, .inl o.oI)), (r 35, .inl (cZ, 4, .inl o.oA)), (r 36, .inl (cJ, 4, .inr (.inl o.oW))), (r 37, .inl (cI, 16, .inl o.oT)), (r 38, .inl (cI, 16, .inl o.oS)), (r 39, .inl (cJ, 24, .inr (.inl o.z.1))), (r 40, .inl (cI, 24, .inl o.z.2.1)), (r 41, .inl (cZ, 24, .inl o.z.2.2.1)), (r 42, .inl (cJ, 24, .inr (.inl o.z.2.2.2)))] [(cI, .int), (cJ, .long), (cZ, .boolean)] t) (va_A [(h, .inr (13, mO r th si le lv pg pn pl rs)), (r 20, .inl (cI, 4, .inl g.nu)), (r 21, .inl (cI, 4, .inl g.pi)), (r 22, .inl (cI, 4, .inl g.vs)), (r 23, .inl (cI, 4, .inl g.cp)), (r 24, .inl (cI, 4, .inl g.sc)), (r 25, .inl (cZ, 4, .inl g.aw)), (r 26, .inl (cJ, 4, .inr (.inl g.nw))), (r 27, .inl (cI, 4, .inl g.wt)), (r 28, .inl (cI, 16, .inl g.ty)), (r 29, .inl (cI, 16, .inl g.sp)), (r 30, .inl (cJ, 24, .inr (.inl g.z.1))), (r 31, .inl (cI, 24, .inl g.z.2.1)), (r 32, .inl (cZ, 24, .inl g.z.2.2.1)), (r 33, .inl (cJ, 24, .inr (.inl g.z.2.2.2))), (r 34, .inl (cI, 24, .inl o.oI)), (r 35, .inl (cZ, 4, .inl o.oA)), (r 36, .inl (cJ, 4, .inr (.inl o.oW))), (r 37, .inl (cI, 16, .inl o.oT)), (r 38, .inl (cI, 16, .inl o.oS)), (r 39, .inl (cJ, 24, .inr (.inl o.z.1))), (r 40, .inl (cI, 24, .inl o.z.2.1)), (r 41, .inl (cZ, 24, .inl o.z.2.2.1)), (r 42, .inl (cJ, 24, .inr (.inl o.z.2.2.2)))] sz)) 0 0 (va_A [(h, .inr (13, mO r th si le lv pg pn pl rs)), (r 20, .inl (cI, 4, .inl g.nu)), (r 21, .inl (cI, 4, .inl g.pi)), (r 22, .inl (cI, 4, .inl g.vs)), (r 23, .inl (cI, 4, .inl g.cp)), (r 24, .inl (cI, 4, .inl g.sc)), (r 25, .inl (cZ, 4, .inl g.aw)), (r 26, .inl (cJ, 4, .inr (.inl g.nw))), (r 27, .inl (cI, 4, .inl g.wt)), (r 28, .inl (cI, 16, .inl g.ty)), (r 29, .inl (cI, 16, .inl g.sp)), (r 30, .inl (cJ, 24, .inr (.inl g.z.1))), (r 31, .inl (cI, 24, .inl g.z.2.1)), (r 32, .inl (cZ, 24, .inl g.z.2.2.1)), (r 33, .inl (cJ, 24, .inr (.inl g.z.2.2.2))), (r 34, .inl (cI, 24, .inl o.oI)), (r 35, .inl (cZ, 4, .inl o.oA)), (r 36, .inl (cJ, 4, .inr (.inl o.oW))), (r 37, .inl (cI, 16, .inl o.oT)), (r 38, .inl (cI, 16, .inl o.oS)), (r 39, .inl (cJ, 24, .inr (.inl o.z.1))), (r 40, .inl (cI, 24, .inl o.z.2.1)), (r 41, .inl (cZ, 24, .inl o.z.2.2.1)), (r 42, .inl (cJ, 24, .inr (.inl o.z.2.2.2)))] sz) := by
  refine Met.ofW (cc := b_Mo_asBefore) (maxL := 4) (ret := none) (by decide) rfl ?_
  intro p e s m args below meth cd s₁ Bd hml hv
  obtain ⟨rfl, hsz, hP, hK, hN, hD0⟩ := hv
  have hx := Bd.exec
  have hb := Bd.bytes
  have hr := Bd.returns
  have hts := hN.use (a := ([.ref h, .int (nI k), .int (nI d)]).toArray)
  have hown : s.vm.findClass R_Mo = some m.cls := findClass_of_methodNamed Bd.named
  have hlocks := Bd.notSynchronized
  subst hsz
  have hD := hD0.self (sz := s.heap.size)
  clear hD0
  have hA : ∀ q : Nat, s.heap.size ≤ q → va_A [(h, .inr (13, mO r th si le lv pg pn pl rs)), (r 20, .inl (cI, 4, .inl g.nu)), (r 21, .inl (cI, 4, .inl g.pi)), (r 22, .inl (cI, 4, .inl g.vs)), (r 23, .inl (cI, 4, .inl g.cp)), (r 24, .inl (cI, 4, .inl g.sc)), (r 25, .inl (cZ, 4, .inl g.aw)), (r 26, .inl (cJ, 4, .inr (.inl g.nw))), (r 27, .inl (cI, 4, .inl g.wt)), (r 28, .inl (cI, 16, .inl g.ty)), (r 29, .inl (cI, 16, .inl g.sp)), (r 30, .inl (cJ, 24, .inr (.inl g.z.1))), (r 31, .inl (cI, 24, .inl g.z.2.1)), (r 32, .inl (cZ, 24, .inl g.z.2.2.1)), (r 33, .inl (cJ, 24, .inr (.inl g.z.2.2.2))), (r 34, .inl (cI, 24, .inl o.oI)), (r 35, .inl (cZ, 4, .inl o.oA)), (r 36, .inl (cJ, 4, .inr (.inl o.oW))), (r 37, .inl (cI, 16, .inl o.oT)), (r 38, .inl (cI, 16, .inl o.oS)), (r 39, .inl (cJ, 24, .inr (.inl o.z.1))), (r 40, .inl (cI, 24, .inl o.z.2.1)), (r 41, .inl (cZ, 24, .inl o.z.2.2.1)), (r 42, .inl (cJ, 24, .inr (.inl o.z.2.2.2)))] s.heap.size q := fun q h => Or.inr h
  have hS : va_S (va_A [(h, .inr (13, mO r th si le lv pg pn pl rs)), (r 20, .inl (cI, 4, .inl g.nu)), (r 21, .inl (cI, 4, .inl g.pi)), (r 22, .inl (cI, 4, .inl g.vs)), (r 23, .inl (cI, 4, .inl g.cp)), (r 24, .inl (cI, 4, .inl g.sc)), (r 25, .inl (cZ, 4, .inl g.aw)), (r 26, .inl (cJ, 4, .inr (.inl g.nw))), (r 27, .inl (cI, 4, .inl g.wt)), (r 28, .inl (cI, 16, .inl g.ty)), (r 29, .inl (cI, 16, .inl g.sp)), (r 30, .inl (cJ, 24, .inr (.inl g.z.1))), (r 31, .inl (cI, 24, .inl g.z.2.1)), (r 32, .inl (cZ, 24, .inl g.z.2.2.1)), (r 33, .inl (cJ, 24, .inr (.inl g.z.2.2.2))), (r 34, .inl (cI, 24, .inl o.oI)), (r 35, .inl (cZ, 4, .inl o.oA)), (r 36, .inl (cJ, 4, .inr (.inl o.oW))), (r 37, .inl (cI, 16, .inl o.oT)), (r 38, .inl (cI, 16, .inl o.oS)), (r 39, .inl (cJ, 24, .inr (.inl o.z.1))), (r 40, .inl (cI, 24, .inl o.z.2.1)), (r 41, .inl (cZ, 24, .inl o.z.2.2.1)), (r 42, .inl (cJ, 24, .inr (.inl o.z.2.2.2)))] s.heap.size) s.heap s.heap [] := va_S.rf
  generalize hAe : va_A [(h, .inr (13, mO r th si le lv pg pn pl rs)), (r 20, .inl (cI, 4, .inl g.nu)), (r 21, .inl (cI, 4, .inl g.pi)), (r 22, .inl (cI, 4, .inl g.vs)), (r 23, .inl (cI, 4, .inl g.cp)), (r 24, .inl (cI, 4, .inl g.sc)), (r 25, .inl (cZ, 4, .inl g.aw)), (r 26, .inl (cJ, 4, .inr (.inl g.nw))), (r 27, .inl (cI, 4, .inl g.wt)), (r 28, .inl (cI, 16, .inl g.ty)), (r 29, .inl (cI, 16, .inl g.sp)), (r 30, .inl (cJ, 24, .inr (.inl g.z.1))), (r 31, .inl (cI, 24, .inl g.z.2.1)), (r 32, .inl (cZ, 24, .inl g.z.2.2.1)), (r 33, .inl (cJ, 24, .inr (.inl g.z.2.2.2))), (r 34, .inl (cI, 24, .inl o.oI)), (r 35, .inl (cZ, 4, .inl o.oA)), (r 36, .inl (cJ, 4, .inr (.inl o.oW))), (r 37, .inl (cI, 16, .inl o.oT)), (r 38, .inl (cI, 16, .inl o.oS)), (r 39, .inl (cJ, 24, .inr (.inl o.z.1))), (r 40, .inl (cI, 24, .inl o.z.2.1)), (r 41, .inl (cZ, 24, .inl o.z.2.2.1)), (r 42, .inl (cJ, 24, .inr (.inl o.z.2.2.2)))] s.heap.size = A at hD hA hS ⊢
  have hP : va_P D classes [(h, .inr (13, mO r th si le lv pg pn pl rs)), (r 20, .inl (cI, 4, .inl g.nu)), (r 21, .inl (cI, 4, .inl g.pi)), (r 22, .inl (cI, 4, .inl g.vs)), (r 23, .inl (cI, 4, .inl g.cp)), (r 24, .inl (cI, 4, .inl g.sc)), (r 25, .inl (cZ, 4, .inl g.aw)), (r 26, .inl (cJ, 4, .inr (.inl g.nw))), (r 27, .inl (cI, 4, .inl g.wt)), (r 28, .inl (cI, 16, .inl g.ty)), (r 29, .inl (cI, 16, .inl g.sp)), (r 30, .inl (cJ, 24, .inr (.inl g.z.1))), (r 31, .inl (cI, 24, .inl g.z.2.1)), (r 32, .inl (cZ, 24, .inl g.z.2.2.1)), (r 33, .inl (cJ, 24, .inr (.inl g.z.2.2.2))), (r 34, .inl (cI, 24, .inl o.oI)), (r 35, .inl (cZ, 4, .inl o.oA)), (r 36, .inl (cJ, 4, .inr (.inl o.oW))), (r 37, .inl (cI, 16, .inl o.oT)), (r 38, .inl (cI, 16, .inl o.oS)), (r 39, .inl (cJ, 24, .inr (.inl o.z.1))), (r 40, .inl (cI, 24, .inl o.z.2.1)), (r 41, .inl (cZ, 24, .inl o.z.2.2.1)), (r 42, .inl (cJ, 24, .inr (.inl o.z.2.2.2)))] s.heap := hP
  have hl := lv_entry ([.ref h, .int (nI k), .int (nI d)]) (n := 4) (Nat.le_of_ble_eq_true rfl)
  rw [lg_entry_eq]
  generalize (lg_sl ([.ref h, .int (nI k), .int (nI d)]) ++ List.replicate (4 - (lg_sl ([.ref h, .int (nI k), .int (nI d)])).length) Slot.unset).toArray = ls at hl ⊢
  have hl : lv_has ls 4 [(0, .ref h), (1, .int (nI k)), (2, .int (nI d))] := hl
  refine lv_aload_n hx hb d_Mo_asBefore_0 rfl (lv_at hl 0 rfl) ?_
  refine va_get (D := D) (ci := 13) (v := .ref (r 22)) (C := R_Mo) (T := F_Mo) (N := 54) hx hb hts i_Mo hown hK hP 0 rfl rfl 22 (by decide) (hts _ wd_1110) (fun _ h9 => h9) rfl d_Mo_asBefore_1 ?_
  refine lv_iload_n hx hb d_Mo_asBefore_4 rfl (lv_at hl 1 rfl) ?_
  refine lv_aload_n hx hb d_Mo_asBefore_5 rfl (lv_at hl 0 rfl) ?_
  refine va_get (D := D) (ci := 13) (v := .ref (r 34)) (C := R_Mo) (T := F_Mo) (N := 54) hx hb hts i_Mo hown hK hP 0 rfl rfl 34 (by decide) (hts _ wd_1122) (fun _ h9 => h9) rfl d_Mo_asBefore_6 ?_
  refine lv_bipush (v := 6) hx hb d_Mo_asBefore_9 (by decide) ?_
  refine lv_iload_n hx hb d_Mo_asBefore_11 rfl (lv_at hl 2 rfl) ?_
  refine lv_imul hx hb d_Mo_asBefore_12 ?_
  refine z_topi (w := nI (6 * d)) (pk_mul 6 _) ?_
  refine lv_iconst (v := 2) hx hb d_Mo_asBefore_13 (by decide) ?_
  refine lv_iadd hx hb d_Mo_asBefore_14 ?_
  refine z_topi (w := nI (6 * d + 2)) (nI_add _ 2) ?_
  refine z_iald hx hb hK hP 15 0 rfl rfl (6 * d + 2) rfl (by omega) (by omega) d_Mo_asBefore_15 ?_
  refine z_iast hx hb hK hP hD hS 3 0 rfl rfl k rfl (by omega) (by omega) d_Mo_asBefore_16 (fun H locs hP hD hS => ?_)
  have hP : va_P D classes [(h, .inr (13, mO r th si le lv pg pn pl rs)), (r 20, .inl (cI, 4, .inl g.nu)), (r 21, .inl (cI, 4, .inl g.pi)), (r 22, .inl (cI, 4, .inl (upd g.vs k (o.oI (6 * d + 2))))), (r 23, .inl (cI, 4, .inl g.cp)), (r 24, .inl (cI, 4, .inl g.sc)), (r 25, .inl (cZ, 4, .inl g.aw)), (r 26, .inl (cJ, 4, .inr (.inl g.nw))), (r 27, .inl (cI, 4, .inl g.wt)), (r 28, .inl (cI, 16, .inl g.ty)), (r 29, .inl (cI, 16, .inl g.sp)), (r 30, .inl (cJ, 24, .inr (.inl g.z.1))), (r 31, .inl (cI, 24, .inl g.z.2.1)), (r 32, .inl (cZ, 24, .inl g.z.2.2.1)), (r 33, .inl (cJ, 24, .inr (.inl g.z.2.2.2))), (r 34, .inl (cI, 24, .inl o.oI)), (r 35, .inl (cZ, 4, .inl o.oA)), (r 36, .inl (cJ, 4, .inr (.inl o.oW))), (r 37, .inl (cI, 16, .inl o.oT)), (r 38, .inl (cI, 16, .inl o.oS)), (r 39, .inl (cJ, 24, .inr (.inl o.z.1))), (r 40, .inl (cI, 24, .inl o.z.2.1)), (r 41, .inl (cZ, 24, .inl o.z.2.2.1)), (r 42, .inl (cJ, 24, .inr (.inl o.z.2.2.2)))] H := hP
  have hD : va_D A [(h, .inr (13, mO r th si le lv pg pn pl rs)), (r 20, .inl (cI, 4, .inl g.nu)), (r 21, .inl (cI, 4, .inl g.pi)), (r 22, .inl (cI, 4, .inl (upd g.vs k (o.oI (6 * d + 2))))), (r 23, .inl (cI, 4, .inl g.cp)), (r 24, .inl (cI, 4, .inl g.sc)), (r 25, .inl (cZ, 4, .inl g.aw)), (r 26, .inl (cJ, 4, .inr (.inl g.nw))), (r 27, .inl (cI, 4, .inl g.wt)), (r 28, .inl (cI, 16, .inl g.ty)), (r 29, .inl (cI, 16, .inl g.sp)), (r 30, .inl (cJ, 24, .inr (.inl g.z.1))), (r 31, .inl (cI, 24, .inl g.z.2.1)), (r 32, .inl (cZ, 24, .inl g.z.2.2.1)), (r 33, .inl (cJ, 24, .inr (.inl g.z.2.2.2))), (r 34, .inl (cI, 24, .inl o.oI)), (r 35, .inl (cZ, 4, .inl o.oA)), (r 36, .inl (cJ, 4, .inr (.inl o.oW))), (r 37, .inl (cI, 16, .inl o.oT)), (r 38, .inl (cI, 16, .inl o.oS)), (r 39, .inl (cJ, 24, .inr (.inl o.z.1))), (r 40, .inl (cI, 24, .inl o.z.2.1)), (r 41, .inl (cZ, 24, .inl o.z.2.2.1)), (r 42, .inl (cJ, 24, .inr (.inl o.z.2.2.2)))] := hD
  refine lv_aload_n hx hb d_Mo_asBefore_17 rfl (lv_at hl 0 rfl) ?_
  refine va_get (D := D) (ci := 13) (v := .ref (r 23)) (C := R_Mo) (T := F_Mo) (N := 54) hx hb hts i_Mo hown hK hP 0 rfl rfl 23 (by decide) (hts _ wd_1111) (fun _ h9 => h9) rfl d_Mo_asBefore_18 ?_
  refine lv_iload_n hx hb d_Mo_asBefore_21 rfl (lv_at hl 1 rfl) ?_
  refine lv_aload_n hx hb d_Mo_asBefore_22 rfl (lv_at hl 0 rfl) ?_
  refine va_get (D := D) (ci := 13) (v := .ref (r 34)) (C := R_Mo) (T := F_Mo) (N := 54) hx hb hts i_Mo hown hK hP 0 rfl rfl 34 (by decide) (hts _ wd_1122) (fun _ h9 => h9) rfl d_Mo_asBefore_23 ?_
  refine lv_bipush (v := 6) hx hb d_Mo_asBefore_26 (by decide) ?_
  refine lv_iload_n hx hb d_Mo_asBefore_28 rfl (lv_at hl 2 rfl) ?_
  refine lv_imul hx hb d_Mo_asBefore_29 ?_
  refine z_topi (w := nI (6 * d)) (pk_mul 6 _) ?_
  refine lv_iconst (v := 3) hx hb d_Mo_asBefore_30 (by decide) ?_
  refine lv_iadd hx hb d_Mo_asBefore_31 ?_
  refine z_topi (w := nI (6 * d + 3)) (nI_add _ 3) ?_
  refine z_iald hx hb hK hP 15 0 rfl rfl (6 * d + 3) rfl (by omega) (by omega) d_Mo_asBefore_32 ?_
  refine z_iast hx hb hK hP hD hS 4 0 rfl rfl k rfl (by omega) (by omega) d_Mo_asBefore_33 (fun H locs hP hD hS => ?_)
  have hP : va_P D classes [(h, .inr (13, mO r th si le lv pg pn pl rs)), (r 20, .inl (cI, 4, .inl g.nu)), (r 21, .inl (cI, 4, .inl g.pi)), (r 22, .inl (cI, 4, .inl (upd g.vs k (o.oI (6 * d + 2))))), (r 23, .inl (cI, 4, .inl (upd g.cp k (o.oI (6 * d + 3))))), (r 24, .inl (cI, 4, .inl g.sc)), (r 25, .inl (cZ, 4, .inl g.aw)), (r 26, .inl (cJ, 4, .inr (.inl g.nw))), (r 27, .inl (cI, 4, .inl g.wt)), (r 28, .inl (cI, 16, .inl g.ty)), (r 29, .inl (cI, 16, .inl g.sp)), (r 30, .inl (cJ, 24, .inr (.inl g.z.1))), (r 31, .inl (cI, 24, .inl g.z.2.1)), (r 32, .inl (cZ, 24, .inl g.z.2.2.1)), (r 33, .inl (cJ, 24, .inr (.inl g.z.2.2.2))), (r 34, .inl (cI, 24, .inl o.oI)), (r 35, .inl (cZ, 4, .inl o.oA)), (r 36, .inl (cJ, 4, .inr (.inl o.oW))), (r 37, .inl (cI, 16, .inl o.oT)), (r 38, .inl (cI, 16, .inl o.oS)), (r 39, .inl (cJ, 24, .inr (.inl o.z.1))), (r 40, .inl (cI, 24, .inl o.z.2.1)), (r 41, .inl (cZ, 24, .inl o.z.2.2.1)), (r 42, .inl (cJ, 24, .inr (.inl o.z.2.2.2)))] H := hP
  have hD : va_D A [(h, .inr (13, mO r th si le lv pg pn pl rs)), (r 20, .inl (cI, 4, .inl g.nu)), (r 21, .inl (cI, 4, .inl g.pi)), (r 22, .inl (cI, 4, .inl (upd g.vs k (o.oI (6 * d + 2))))), (r 23, .inl (cI, 4, .inl (upd g.cp k (o.oI (6 * d + 3))))), (r 24, .inl (cI, 4, .inl g.sc)), (r 25, .inl (cZ, 4, .inl g.aw)), (r 26, .inl (cJ, 4, .inr (.inl g.nw))), (r 27, .inl (cI, 4, .inl g.wt)), (r 28, .inl (cI, 16, .inl g.ty)), (r 29, .inl (cI, 16, .inl g.sp)), (r 30, .inl (cJ, 24, .inr (.inl g.z.1))), (r 31, .inl (cI, 24, .inl g.z.2.1)), (r 32, .inl (cZ, 24, .inl g.z.2.2.1)), (r 33, .inl (cJ, 24, .inr (.inl g.z.2.2.2))), (r 34, .inl (cI, 24, .inl o.oI)), (r 35, .inl (cZ, 4, .inl o.oA)), (r 36, .inl (cJ, 4, .inr (.inl o.oW))), (r 37, .inl (cI, 16, .inl o.oT)), (r 38, .inl (cI, 16, .inl o.oS)), (r 39, .inl (cJ, 24, .inr (.inl o.z.1))), (r 40, .inl (cI, 24, .inl o.z.2.1)), (r 41, .inl (cZ, 24, .inl o.z.2.2.1)), (r 42, .inl (cJ, 24, .inr (.inl o.z.2.2.2)))] := hD
  refine lv_aload_n hx hb d_Mo_asBefore_34 rfl (lv_at hl 0 rfl) ?_
  refine va_get (D := D) (ci := 13) (v := .ref (r 24)) (C := R_Mo) (T := F_Mo) (N := 54) hx hb hts i_Mo hown hK hP 0 rfl rfl 24 (by decide) (hts _ wd_1112) (fun _ h9 => h9) rfl d_Mo_asBefore_35 ?_
  refine lv_iload_n hx hb d_Mo_asBefore_38 rfl (lv_at hl 1 rfl) ?_
  refine lv_aload_n hx hb d_Mo_asBefore_39 rfl (lv_at hl 0 rfl) ?_
  refine va_get (D := D) (ci := 13) (v := .ref (r 34)) (C := R_Mo) (T := F_Mo) (N := 54) hx hb hts i_Mo hown hK hP 0 rfl rfl 34 (by decide) (hts _ wd_1122) (fun _ h9 => h9) rfl d_Mo_asBefore_40 ?_
  refine lv_bipush (v := 6) hx hb d_Mo_asBefore_43 (by decide) ?_
  refine lv_iload_n hx hb d_Mo_asBefore_45 rfl (lv_at hl 2 rfl) ?_
  refine lv_imul hx hb d_Mo_asBefore_46 ?_
  refine z_topi (w := nI (6 * d)) (pk_mul 6 _) ?_
  refine lv_iconst (v := 4) hx hb d_Mo_asBefore_47 (by decide) ?_
  refine lv_iadd hx hb d_Mo_asBefore_48 ?_
  refine z_topi (w := nI (6 * d + 4)) (nI_add _ 4) ?_
  refine z_iald hx hb hK hP 15 0 rfl rfl (6 * d + 4) rfl (by omega) (by omega) d_Mo_asBefore_49 ?_
  refine z_iast hx hb hK hP hD hS 5 0 rfl rfl k rfl (by omega) (by omega) d_Mo_asBefore_50 (fun H locs hP hD hS => ?_)
  have hP : va_P D classes [(h, .inr (13, mO r th si le lv pg pn pl rs)), (r 20, .inl (cI, 4, .inl g.nu)), (r 21, .inl (cI, 4, .inl g.pi)), (r 22, .inl (cI, 4, .inl (upd g.vs k (o.oI (6 * d + 2))))), (r 23, .inl (cI, 4, .inl (upd g.cp k (o.oI (6 * d + 3))))), (r 24, .inl (cI, 4, .inl (upd g.sc k (o.oI (6 * d + 4))))), (r 25, .inl (cZ, 4, .inl g.aw)), (r 26, .inl (cJ, 4, .inr (.inl g.nw))), (r 27, .inl (cI, 4, .inl g.wt)), (r 28, .inl (cI, 16, .inl g.ty)), (r 29, .inl (cI, 16, .inl g.sp)), (r 30, .inl (cJ, 24, .inr (.inl g.z.1))), (r 31, .inl (cI, 24, .inl g.z.2.1)), (r 32, .inl (cZ, 24, .inl g.z.2.2.1)), (r 33, .inl (cJ, 24, .inr (.inl g.z.2.2.2))), (r 34, .inl (cI, 24, .inl o.oI)), (r 35, .inl (cZ, 4, .inl o.oA)), (r 36, .inl (cJ, 4, .inr (.inl o.oW))), (r 37, .inl (cI, 16, .inl o.oT)), (r 38, .inl (cI, 16, .inl o.oS)), (r 39, .inl (cJ, 24, .inr (.inl o.z.1))), (r 40, .inl (cI, 24, .inl o.z.2.1)), (r 41, .inl (cZ, 24, .inl o.z.2.2.1)), (r 42, .inl (cJ, 24, .inr (.inl o.z.2.2.2)))] H := hP
  have hD : va_D A [(h, .inr (13, mO r th si le lv pg pn pl rs)), (r 20, .inl (cI, 4, .inl g.nu)), (r 21, .inl (cI, 4, .inl g.pi)), (r 22, .inl (cI, 4, .inl (upd g.vs k (o.oI (6 * d + 2))))), (r 23, .inl (cI, 4, .inl (upd g.cp k (o.oI (6 * d + 3))))), (r 24, .inl (cI, 4, .inl (upd g.sc k (o.oI (6 * d + 4))))), (r 25, .inl (cZ, 4, .inl g.aw)), (r 26, .inl (cJ, 4, .inr (.inl g.nw))), (r 27, .inl (cI, 4, .inl g.wt)), (r 28, .inl (cI, 16, .inl g.ty)), (r 29, .inl (cI, 16, .inl g.sp)), (r 30, .inl (cJ, 24, .inr (.inl g.z.1))), (r 31, .inl (cI, 24, .inl g.z.2.1)), (r 32, .inl (cZ, 24, .inl g.z.2.2.1)), (r 33, .inl (cJ, 24, .inr (.inl g.z.2.2.2))), (r 34, .inl (cI, 24, .inl o.oI)), (r 35, .inl (cZ, 4, .inl o.oA)), (r 36, .inl (cJ, 4, .inr (.inl o.oW))), (r 37, .inl (cI, 16, .inl o.oT)), (r 38, .inl (cI, 16, .inl o.oS)), (r 39, .inl (cJ, 24, .inr (.inl o.z.1))), (r 40, .inl (cI, 24, .inl o.z.2.1)), (r 41, .inl (cZ, 24, .inl o.z.2.2.1)), (r 42, .inl (cJ, 24, .inr (.inl o.z.2.2.2)))] := hD
  refine lv_aload_n hx hb d_Mo_asBefore_51 rfl (lv_at hl 0 rfl) ?_
  refine va_get (D := D) (ci := 13) (v := .ref (r 27)) (C := R_Mo) (T := F_Mo) (N := 54) hx hb hts i_Mo hown hK hP 0 rfl rfl 27 (by decide) (hts _ wd_1115) (fun _ h9 => h9) rfl d_Mo_asBefore_52 ?_
  refine lv_iload_n hx hb d_Mo_asBefore_55 rfl (lv_at hl 1 rfl) ?_
  refine lv_aload_n hx hb d_Mo_asBefore_56 rfl (lv_at hl 0 rfl) ?_
  refine va_get (D := D) (ci := 13) (v := .ref (r 34)) (C := R_Mo) (T := F_Mo) (N := 54) hx hb hts i_Mo hown hK hP 0 rfl rfl 34 (by decide) (hts _ wd_1122) (fun _ h9 => h9) rfl d_Mo_asBefore_57 ?_
  refine lv_bipush (v := 6) hx hb d_Mo_asBefore_60 (by decide) ?_
  refine lv_iload_n hx hb d_Mo_asBefore_62 rfl (lv_at hl 2 rfl) ?_
  refine lv_imul hx hb d_Mo_asBefore_63 ?_
  refine z_topi (w := nI (6 * d)) (pk_mul 6 _) ?_
  refine lv_iconst (v := 5) hx hb d_Mo_asBefore_64 (by decide) ?_
  refine lv_iadd hx hb d_Mo_asBefore_65 ?_
  refine z_topi (w := nI (6 * d + 5)) (nI_add _ 5) ?_
  refine z_iald hx hb hK hP 15 0 rfl rfl (6 * d + 5) rfl (by omega) (by omega) d_Mo_asBefore_66 ?_
  refine z_iast hx hb hK hP hD hS 8 0 rfl rfl k rfl (by omega) (by omega) d_Mo_asBefore_67 (fun H locs hP hD hS => ?_)
  have hP : va_P D classes [(h, .inr (13, mO r th si le lv pg pn pl rs)), (r 20, .inl (cI, 4, .inl g.nu)), (r 21, .inl (cI, 4, .inl g.pi)), (r 22, .inl (cI, 4, .inl (upd g.vs k (o.oI (6 * d + 2))))), (r 23, .inl (cI, 4, .inl (upd g.cp k (o.oI (6 * d + 3))))), (r 24, .inl (cI, 4, .inl (upd g.sc k (o.oI (6 * d + 4))))), (r 25, .inl (cZ, 4, .inl g.aw)), (r 26, .inl (cJ, 4, .inr (.inl g.nw))), (r 27, .inl (cI, 4, .inl (upd g.wt k (o.oI (6 * d + 5))))), (r 28, .inl (cI, 16, .inl g.ty)), (r 29, .inl (cI, 16, .inl g.sp)), (r 30, .inl (cJ, 24, .inr (.inl g.z.1))), (r 31, .inl (cI, 24, .inl g.z.2.1)), (r 32, .inl (cZ, 24, .inl g.z.2.2.1)), (r 33, .inl (cJ, 24, .inr (.inl g.z.2.2.2))), (r 34, .inl (cI, 24, .inl o.oI)), (r 35, .inl (cZ, 4, .inl o.oA)), (r 36, .inl (cJ, 4, .inr (.inl o.oW))), (r 37, .inl (cI, 16, .inl o.oT)), (r 38, .inl (cI, 16, .inl o.oS)), (r 39, .inl (cJ, 24, .inr (.inl o.z.1))), (r 40, .inl (cI, 24, .inl o.z.2.1)), (r 41, .inl (cZ, 24, .inl o.z.2.2.1)), (r 42, .inl (cJ, 24, .inr (.inl o.z.2.2.2)))] H := hP
  have hD : va_D A [(h, .inr (13, mO r th si le lv pg pn pl rs)), (r 20, .inl (cI, 4, .inl g.nu)), (r 21, .inl (cI, 4, .inl g.pi)), (r 22, .inl (cI, 4, .inl (upd g.vs k (o.oI (6 * d + 2))))), (r 23, .inl (cI, 4, .inl (upd g.cp k (o.oI (6 * d + 3))))), (r 24, .inl (cI, 4, .inl (upd g.sc k (o.oI (6 * d + 4))))), (r 25, .inl (cZ, 4, .inl g.aw)), (r 26, .inl (cJ, 4, .inr (.inl g.nw))), (r 27, .inl (cI, 4, .inl (upd g.wt k (o.oI (6 * d + 5))))), (r 28, .inl (cI, 16, .inl g.ty)), (r 29, .inl (cI, 16, .inl g.sp)), (r 30, .inl (cJ, 24, .inr (.inl g.z.1))), (r 31, .inl (cI, 24, .inl g.z.2.1)), (r 32, .inl (cZ, 24, .inl g.z.2.2.1)), (r 33, .inl (cJ, 24, .inr (.inl g.z.2.2.2))), (r 34, .inl (cI, 24, .inl o.oI)), (r 35, .inl (cZ, 4, .inl o.oA)), (r 36, .inl (cJ, 4, .inr (.inl o.oW))), (r 37, .inl (cI, 16, .inl o.oT)), (r 38, .inl (cI, 16, .inl o.oS)), (r 39, .inl (cJ, 24, .inr (.inl o.z.1))), (r 40, .inl (cI, 24, .inl o.z.2.1)), (r 41, .inl (cZ, 24, .inl o.z.2.2.1)), (r 42, .inl (cJ, 24, .inr (.inl o.z.2.2.2)))] := hD
  refine lv_aload_n hx hb d_Mo_asBefore_68 rfl (lv_at hl 0 rfl) ?_
  refine va_get (D := D) (ci := 13) (v := .ref (r 25)) (C := R_Mo) (T := F_Mo) (N := 54) hx hb hts i_Mo hown hK hP 0 rfl rfl 25 (by decide) (hts _ wd_1113) (fun _ h9 => h9) rfl d_Mo_asBefore_69 ?_
  refine lv_iload_n hx hb d_Mo_asBefore_72 rfl (lv_at hl 1 rfl) ?_
  refine lv_aload_n hx hb d_Mo_asBefore_73 rfl (lv_at hl 0 rfl) ?_
  refine va_get (D := D) (ci := 13) (v := .ref (r 35)) (C := R_Mo) (T := F_Mo) (N := 54) hx hb hts i_Mo hown hK hP 0 rfl rfl 35 (by decide) (hts _ wd_1123) (fun _ h9 => h9) rfl d_Mo_asBefore_74 ?_
  refine lv_iload_n hx hb d_Mo_asBefore_77 rfl (lv_at hl 2 rfl) ?_
  refine z_zald hx hb hK hP 16 2 rfl rfl d rfl (by omega) (by omega) d_Mo_asBefore_78 ?_
  refine z_zast hx hb hK hP hD hS 6 2 rfl rfl k rfl (by omega) (by omega) d_Mo_asBefore_79 (fun H locs hP hD hS => ?_)
  have hP : va_P D classes [(h, .inr (13, mO r th si le lv pg pn pl rs)), (r 20, .inl (cI, 4, .inl g.nu)), (r 21, .inl (cI, 4, .inl g.pi)), (r 22, .inl (cI, 4, .inl (upd g.vs k (o.oI (6 * d + 2))))), (r 23, .inl (cI, 4, .inl (upd g.cp k (o.oI (6 * d + 3))))), (r 24, .inl (cI, 4, .inl (upd g.sc k (o.oI (6 * d + 4))))), (r 25, .inl (cZ, 4, .inl (upd g.aw k (vp_nar .boolean (o.oA d))))), (r 26, .inl (cJ, 4, .inr (.inl g.nw))), (r 27, .inl (cI, 4, .inl (upd g.wt k (o.oI (6 * d + 5))))), (r 28, .inl (cI, 16, .inl g.ty)), (r 29, .inl (cI, 16, .inl g.sp)), (r 30, .inl (cJ, 24, .inr (.inl g.z.1))), (r 31, .inl (cI, 24, .inl g.z.2.1)), (r 32, .inl (cZ, 24, .inl g.z.2.2.1)), (r 33, .inl (cJ, 24, .inr (.inl g.z.2.2.2))), (r 34, .inl (cI, 24, .inl o.oI)), (r 35, .inl (cZ, 4, .inl o.oA)), (r 36, .inl (cJ, 4, .inr (.inl o.oW))), (r 37, .inl (cI, 16, .inl o.oT)), (r 38, .inl (cI, 16, .inl o.oS)), (r 39, .inl (cJ, 24, .inr (.inl o.z.1))), (r 40, .inl (cI, 24, .inl o.z.2.1)), (r 41, .inl (cZ, 24, .inl o.z.2.2.1)), (r 42, .inl (cJ, 24, .inr (.inl o.z.2.2.2)))] H := hP
  have hD : va_D A [(h, .inr (13, mO r th si le lv pg pn pl rs)), (r 20, .inl (cI, 4, .inl g.nu)), (r 21, .inl (cI, 4, .inl g.pi)), (r 22, .inl (cI, 4, .inl (upd g.vs k (o.oI (6 * d + 2))))), (r 23, .inl (cI, 4, .inl (upd g.cp k (o.oI (6 * d + 3))))), (r 24, .inl (cI, 4, .inl (upd g.sc k (o.oI (6 * d + 4))))), (r 25, .inl (cZ, 4, .inl (upd g.aw k (vp_nar .boolean (o.oA d))))), (r 26, .inl (cJ, 4, .inr (.inl g.nw))), (r 27, .inl (cI, 4, .inl (upd g.wt k (o.oI (6 * d + 5))))), (r 28, .inl (cI, 16, .inl g.ty)), (r 29, .inl (cI, 16, .inl g.sp)), (r 30, .inl (cJ, 24, .inr (.inl g.z.1))), (r 31, .inl (cI, 24, .inl g.z.2.1)), (r 32, .inl (cZ, 24, .inl g.z.2.2.1)), (r 33, .inl (cJ, 24, .inr (.inl g.z.2.2.2))), (r 34, .inl (cI, 24, .inl o.oI)), (r 35, .inl (cZ, 4, .inl o.oA)), (r 36, .inl (cJ, 4, .inr (.inl o.oW))), (r 37, .inl (cI, 16, .inl o.oT)), (r 38, .inl (cI, 16, .inl o.oS)), (r 39, .inl (cJ, 24, .inr (.inl o.z.1))), (r 40, .inl (cI, 24, .inl o.z.2.1)), (r 41, .inl (cZ, 24, .inl o.z.2.2.1)), (r 42, .inl (cJ, 24, .inr (.inl o.z.2.2.2)))] := hD
  refine lv_aload_n hx hb d_Mo_asBefore_80 rfl (lv_at hl 0 rfl) ?_
  refine va_get (D := D) (ci := 13) (v := .ref (r 26)) (C := R_Mo) (T := F_Mo) (N := 54) hx hb hts i_Mo hown hK hP 0 rfl rfl 26 (by decide) (hts _ wd_1114) (fun _ h9 => h9) rfl d_Mo_asBefore_81 ?_
  refine lv_iload_n hx hb d_Mo_asBefore_84 rfl (lv_at hl 1 rfl) ?_
  refine lv_aload_n hx hb d_Mo_asBefore_85 rfl (lv_at hl 0 rfl) ?_
  refine va_get (D := D) (ci := 13) (v := .ref (r 36)) (C := R_Mo) (T := F_Mo) (N := 54) hx hb hts i_Mo hown hK hP 0 rfl rfl 36 (by decide) (hts _ wd_1124) (fun _ h9 => h9) rfl d_Mo_asBefore_86 ?_
  refine lv_iload_n hx hb d_Mo_asBefore_89 rfl (lv_at hl 2 rfl) ?_
  refine z_lald hx hb hK hP 17 1 rfl rfl d rfl (by omega) (by omega) d_Mo_asBefore_90 ?_
  refine z_last hx hb hK hP hD hS 7 1 rfl rfl k rfl (by omega) (by omega) d_Mo_asBefore_91 (fun H locs hP hD hS => ?_)
  have hP : va_P D classes [(h, .inr (13, mO r th si le lv pg pn pl rs)), (r 20, .inl (cI, 4, .inl g.nu)), (r 21, .inl (cI, 4, .inl g.pi)), (r 22, .inl (cI, 4, .inl (upd g.vs k (o.oI (6 * d + 2))))), (r 23, .inl (cI, 4, .inl (upd g.cp k (o.oI (6 * d + 3))))), (r 24, .inl (cI, 4, .inl (upd g.sc k (o.oI (6 * d + 4))))), (r 25, .inl (cZ, 4, .inl (upd g.aw k (vp_nar .boolean (o.oA d))))), (r 26, .inl (cJ, 4, .inr (.inl (vp_updL g.nw k (o.oW d))))), (r 27, .inl (cI, 4, .inl (upd g.wt k (o.oI (6 * d + 5))))), (r 28, .inl (cI, 16, .inl g.ty)), (r 29, .inl (cI, 16, .inl g.sp)), (r 30, .inl (cJ, 24, .inr (.inl g.z.1))), (r 31, .inl (cI, 24, .inl g.z.2.1)), (r 32, .inl (cZ, 24, .inl g.z.2.2.1)), (r 33, .inl (cJ, 24, .inr (.inl g.z.2.2.2))), (r 34, .inl (cI, 24, .inl o.oI)), (r 35, .inl (cZ, 4, .inl o.oA)), (r 36, .inl (cJ, 4, .inr (.inl o.oW))), (r 37, .inl (cI, 16, .inl o.oT)), (r 38, .inl (cI, 16, .inl o.oS)), (r 39, .inl (cJ, 24, .inr (.inl o.z.1))), (r 40, .inl (cI, 24, .inl o.z.2.1)), (r 41, .inl (cZ, 24, .inl o.z.2.2.1)), (r 42, .inl (cJ, 24, .inr (.inl o.z.2.2.2)))] H := hP
  have hD : va_D A [(h, .inr (13, mO r th si le lv pg pn pl rs)), (r 20, .inl (cI, 4, .inl g.nu)), (r 21, .inl (cI, 4, .inl g.pi)), (r 22, .inl (cI, 4, .inl (upd g.vs k (o.oI (6 * d + 2))))), (r 23, .inl (cI, 4, .inl (upd g.cp k (o.oI (6 * d + 3))))), (r 24, .inl (cI, 4, .inl (upd g.sc k (o.oI (6 * d + 4))))), (r 25, .inl (cZ, 4, .inl (upd g.aw k (vp_nar .boolean (o.oA d))))), (r 26, .inl (cJ, 4, .inr (.inl (vp_updL g.nw k (o.oW d))))), (r 27, .inl (cI, 4, .inl (upd g.wt k (o.oI (6 * d + 5))))), (r 28, .inl (cI, 16, .inl g.ty)), (r 29, .inl (cI, 16, .inl g.sp)), (r 30, .inl (cJ, 24, .inr (.inl g.z.1))), (r 31, .inl (cI, 24, .inl g.z.2.1)), (r 32, .inl (cZ, 24, .inl g.z.2.2.1)), (r 33, .inl (cJ, 24, .inr (.inl g.z.2.2.2))), (r 34, .inl (cI, 24, .inl o.oI)), (r 35, .inl (cZ, 4, .inl o.oA)), (r 36, .inl (cJ, 4, .inr (.inl o.oW))), (r 37, .inl (cI, 16, .inl o.oT)), (r 38, .inl (cI, 16, .inl o.oS)), (r 39, .inl (cJ, 24, .inr (.inl o.z.1))), (r 40, .inl (cI, 24, .inl o.z.2.1)), (r 41, .inl (cZ, 24, .inl o.z.2.2.1)), (r 42, .inl (cJ, 24, .inr (.inl o.z.2.2.2)))] := hD
  refine lv_iconst (v := 0) hx hb d_Mo_asBefore_92 (by decide) ?_
  refine lv_istore_n (lv' := [(3, .int 0), (0, .ref h), (1, .int (nI k)), (2, .int (nI d))]) hx hb d_Mo_asBefore_93 rfl hl (by decide) rfl (fun ls hl => ?_)
  have loop94 : ∀ (N : Nat) (j : Nat) (H : Heap) (locs : List Loc) (ls : Array Slot) (hm : 4 - j < N) (hj : j ≤ 4) (hl : lv_has ls 4 [(0, .ref h), (1, .int (nI k)), (2, .int (nI d)), (3, .int (nI j))]) (hP : va_P D classes [(h, .inr (13, mO r th si le lv pg pn pl rs)), (r 20, .inl (cI, 4, .inl ((asB g o k d).nu))), (r 21, .inl (cI, 4, .inl ((asB g o k d).pi))), (r 22, .inl (cI, 4, .inl ((asB g o k d).vs))), (r 23, .inl (cI, 4, .inl ((asB g o k d).cp))), (r 24, .inl (cI, 4, .inl ((asB g o k d).sc))), (r 25, .inl (cZ, 4, .inl ((asB g o k d).aw))), (r 26, .inl (cJ, 4, .inr (.inl ((asB g o k d).nw)))), (r 27, .inl (cI, 4, .inl ((asB g o k d).wt))), (r 28, .inl (cI, 16, .inl (cqA g.ty (4 * k) o.oT (4 * d) j))), (r 29, .inl (cI, 16, .inl (cqA g.sp (4 * k) o.oS (4 * d) j))), (r 30, .inl (cJ, 24, .inr (.inl (cqL g.z.1 (6 * k) o.z.1 (6 * d) 0)))), (r 31, .inl (cI, 24, .inl (cqA g.z.2.1 (6 * k) o.z.2.1 (6 * d) 0))), (r 32, .inl (cZ, 24, .inl (cqB g.z.2.2.1 (6 * k) o.z.2.2.1 (6 * d) 0))), (r 33, .inl (cJ, 24, .inr (.inl (cqL g.z.2.2.2 (6 * k) o.z.2.2.2 (6 * d) 0)))), (r 34, .inl (cI, 24, .inl o.oI)), (r 35, .inl (cZ, 4, .inl o.oA)), (r 36, .inl (cJ, 4, .inr (.inl o.oW))), (r 37, .inl (cI, 16, .inl o.oT)), (r 38, .inl (cI, 16, .inl o.oS)), (r 39, .inl (cJ, 24, .inr (.inl o.z.1))), (r 40, .inl (cI, 24, .inl o.z.2.1)), (r 41, .inl (cZ, 24, .inl o.z.2.2.1)), (r 42, .inl (cJ, 24, .inr (.inl o.z.2.2.2)))] H) (hD : va_D A [(h, .inr (13, mO r th si le lv pg pn pl rs)), (r 20, .inl (cI, 4, .inl ((asB g o k d).nu))), (r 21, .inl (cI, 4, .inl ((asB g o k d).pi))), (r 22, .inl (cI, 4, .inl ((asB g o k d).vs))), (r 23, .inl (cI, 4, .inl ((asB g o k d).cp))), (r 24, .inl (cI, 4, .inl ((asB g o k d).sc))), (r 25, .inl (cZ, 4, .inl ((asB g o k d).aw))), (r 26, .inl (cJ, 4, .inr (.inl ((asB g o k d).nw)))), (r 27, .inl (cI, 4, .inl ((asB g o k d).wt))), (r 28, .inl (cI, 16, .inl (cqA g.ty (4 * k) o.oT (4 * d) j))), (r 29, .inl (cI, 16, .inl (cqA g.sp (4 * k) o.oS (4 * d) j))), (r 30, .inl (cJ, 24, .inr (.inl (cqL g.z.1 (6 * k) o.z.1 (6 * d) 0)))), (r 31, .inl (cI, 24, .inl (cqA g.z.2.1 (6 * k) o.z.2.1 (6 * d) 0))), (r 32, .inl (cZ, 24, .inl (cqB g.z.2.2.1 (6 * k) o.z.2.2.1 (6 * d) 0))), (r 33, .inl (cJ, 24, .inr (.inl (cqL g.z.2.2.2 (6 * k) o.z.2.2.2 (6 * d) 0)))), (r 34, .inl (cI, 24, .inl o.oI)), (r 35, .inl (cZ, 4, .inl o.oA)), (r 36, .inl (cJ, 4, .inr (.inl o.oW))), (r 37, .inl (cI, 16, .inl o.oT)), (r 38, .inl (cI, 16, .inl o.oS)), (r 39, .inl (cJ, 24, .inr (.inl o.z.1))), (r 40, .inl (cI, 24, .inl o.z.2.1)), (r 41, .inl (cZ, 24, .inl o.z.2.2.1)), (r 42, .inl (cJ, 24, .inr (.inl o.z.2.2.2)))]) (hS : va_S A s.heap H locs), W p l e ({ frames := 0, cells := 0, slots := 0, locals := 0 }) s m ([.ref h, .int (nI k), .int (nI d)]).toArray below meth cd H locs 0 0 (MQ below (va_Qv (fun (_ : Unit) => True) (fun (_u : Unit) t => zW D (A) [(h, .inr (13, mO r th si le lv pg pn pl rs)), (r 20, .inl (cI, 4, .inl ((asB g o k d).nu))), (r 21, .inl (cI, 4, .inl ((asB g o k d).pi))), (r 22, .inl (cI, 4, .inl ((asB g o k d).vs))), (r 23, .inl (cI, 4, .inl ((asB g o k d).cp))), (r 24, .inl (cI, 4, .inl ((asB g o k d).sc))), (r 25, .inl (cZ, 4, .inl ((asB g o k d).aw))), (r 26, .inl (cJ, 4, .inr (.inl ((asB g o k d).nw)))), (r 27, .inl (cI, 4, .inl ((asB g o k d).wt))), (r 28, .inl (cI, 16, .inl ((asB g o k d).ty))), (r 29, .inl (cI, 16, .inl ((asB g o k d).sp))), (r 30, .inl (cJ, 24, .inr (.inl ((asB g o k d).z.1)))), (r 31, .inl (cI, 24, .inl ((asB g o k d).z.2.1))), (r 32, .inl (cZ, 24, .inl ((asB g o k d).z.2.2.1))), (r 33, .inl (cJ, 24, .inr (.inl ((asB g o k d).z.2.2.2)))), (r 34, .inl (cI, 24, .inl o.oI)), (r 35, .inl (cZ, 4, .inl o.oA)), (r 36, .inl (cJ, 4, .inr (.inl o.oW))), (r 37, .inl (cI, 16, .inl o.oT)), (r 38, .inl (cI, 16, .inl o.oS)), (r 39, .inl (cJ, 24, .inr (.inl o.z.1))), (r 40, .inl (cI, 24, .inl o.z.2.1)), (r 41, .inl (cZ, 24, .inl o.z.2.2.1)), (r 42, .inl (cJ, 24, .inr (.inl o.z.2.2.2)))] [(cI, .int), (cJ, .long), (cZ, .boolean)] t) (A)) ([.ref h, .int (nI k), .int (nI d)]).toArray s 0 0 (A)) (F0 m 94 ls []) := by
    intro N94
    induction N94 with
    | zero => intro j H locs ls hm hj hl hP hD hS; exact absurd hm (Nat.not_lt_zero _)
    | succ N94 ih94 =>
      intro j H locs ls hm hj hl hP hD hS
      refine lv_iload_n hx hb d_Mo_asBefore_94 rfl (lv_at hl 3 rfl) ?_
      refine lv_iconst (v := 4) hx hb d_Mo_asBefore_95 (by decide) ?_
      refine lv_icmp_ge (tgt := 145) hx hb d_Mo_asBefore_96 rfl (fun h96 => ?_) (fun h96 => ?_)
      · have h96 := (nI_leI (a := 4) (by omega) (by omega)).mp h96
        obtain rfl : j = 4 := by omega
        refine lv_iconst (v := 0) hx hb d_Mo_asBefore_145 (by decide) ?_
        refine lv_istore_n (lv' := [(3, .int 0), (0, .ref h), (1, .int (nI k)), (2, .int (nI d))]) hx hb d_Mo_asBefore_146 rfl hl (by decide) rfl (fun ls hl => ?_)
        have loop147 : ∀ (N : Nat) (j2 : Nat) (H : Heap) (locs : List Loc) (ls : Array Slot) (hm : 6 - j2 < N) (hj : j2 ≤ 6) (hl : lv_has ls 4 [(0, .ref h), (1, .int (nI k)), (2, .int (nI d)), (3, .int (nI j2))]) (hP : va_P D classes [(h, .inr (13, mO r th si le lv pg pn pl rs)), (r 20, .inl (cI, 4, .inl ((asB g o k d).nu))), (r 21, .inl (cI, 4, .inl ((asB g o k d).pi))), (r 22, .inl (cI, 4, .inl ((asB g o k d).vs))), (r 23, .inl (cI, 4, .inl ((asB g o k d).cp))), (r 24, .inl (cI, 4, .inl ((asB g o k d).sc))), (r 25, .inl (cZ, 4, .inl ((asB g o k d).aw))), (r 26, .inl (cJ, 4, .inr (.inl ((asB g o k d).nw)))), (r 27, .inl (cI, 4, .inl ((asB g o k d).wt))), (r 28, .inl (cI, 16, .inl (cqA g.ty (4 * k) o.oT (4 * d) 4))), (r 29, .inl (cI, 16, .inl (cqA g.sp (4 * k) o.oS (4 * d) 4))), (r 30, .inl (cJ, 24, .inr (.inl (cqL g.z.1 (6 * k) o.z.1 (6 * d) j2)))), (r 31, .inl (cI, 24, .inl (cqA g.z.2.1 (6 * k) o.z.2.1 (6 * d) j2))), (r 32, .inl (cZ, 24, .inl (cqB g.z.2.2.1 (6 * k) o.z.2.2.1 (6 * d) j2))), (r 33, .inl (cJ, 24, .inr (.inl (cqL g.z.2.2.2 (6 * k) o.z.2.2.2 (6 * d) j2)))), (r 34, .inl (cI, 24, .inl o.oI)), (r 35, .inl (cZ, 4, .inl o.oA)), (r 36, .inl (cJ, 4, .inr (.inl o.oW))), (r 37, .inl (cI, 16, .inl o.oT)), (r 38, .inl (cI, 16, .inl o.oS)), (r 39, .inl (cJ, 24, .inr (.inl o.z.1))), (r 40, .inl (cI, 24, .inl o.z.2.1)), (r 41, .inl (cZ, 24, .inl o.z.2.2.1)), (r 42, .inl (cJ, 24, .inr (.inl o.z.2.2.2)))] H) (hD : va_D A [(h, .inr (13, mO r th si le lv pg pn pl rs)), (r 20, .inl (cI, 4, .inl ((asB g o k d).nu))), (r 21, .inl (cI, 4, .inl ((asB g o k d).pi))), (r 22, .inl (cI, 4, .inl ((asB g o k d).vs))), (r 23, .inl (cI, 4, .inl ((asB g o k d).cp))), (r 24, .inl (cI, 4, .inl ((asB g o k d).sc))), (r 25, .inl (cZ, 4, .inl ((asB g o k d).aw))), (r 26, .inl (cJ, 4, .inr (.inl ((asB g o k d).nw)))), (r 27, .inl (cI, 4, .inl ((asB g o k d).wt))), (r 28, .inl (cI, 16, .inl (cqA g.ty (4 * k) o.oT (4 * d) 4))), (r 29, .inl (cI, 16, .inl (cqA g.sp (4 * k) o.oS (4 * d) 4))), (r 30, .inl (cJ, 24, .inr (.inl (cqL g.z.1 (6 * k) o.z.1 (6 * d) j2)))), (r 31, .inl (cI, 24, .inl (cqA g.z.2.1 (6 * k) o.z.2.1 (6 * d) j2))), (r 32, .inl (cZ, 24, .inl (cqB g.z.2.2.1 (6 * k) o.z.2.2.1 (6 * d) j2))), (r 33, .inl (cJ, 24, .inr (.inl (cqL g.z.2.2.2 (6 * k) o.z.2.2.2 (6 * d) j2)))), (r 34, .inl (cI, 24, .inl o.oI)), (r 35, .inl (cZ, 4, .inl o.oA)), (r 36, .inl (cJ, 4, .inr (.inl o.oW))), (r 37, .inl (cI, 16, .inl o.oT)), (r 38, .inl (cI, 16, .inl o.oS)), (r 39, .inl (cJ, 24, .inr (.inl o.z.1))), (r 40, .inl (cI, 24, .inl o.z.2.1)), (r 41, .inl (cZ, 24, .inl o.z.2.2.1)), (r 42, .inl (cJ, 24, .inr (.inl o.z.2.2.2)))]) (hS : va_S A s.heap H locs), W p l e ({ frames := 0, cells := 0, slots := 0, locals := 0 }) s m ([.ref h, .int (nI k), .int (nI d)]).toArray below meth cd H locs 0 0 (MQ below (va_Qv (fun (_ : Unit) => True) (fun (_u : Unit) t => zW D (A) [(h, .inr (13, mO r th si le lv pg pn pl rs)), (r 20, .inl (cI, 4, .inl ((asB g o k d).nu))), (r 21, .inl (cI, 4, .inl ((asB g o k d).pi))), (r 22, .inl (cI, 4, .inl ((asB g o k d).vs))), (r 23, .inl (cI, 4, .inl ((asB g o k d).cp))), (r 24, .inl (cI, 4, .inl ((asB g o k d).sc))), (r 25, .inl (cZ, 4, .inl ((asB g o k d).aw))), (r 26, .inl (cJ, 4, .inr (.inl ((asB g o k d).nw)))), (r 27, .inl (cI, 4, .inl ((asB g o k d).wt))), (r 28, .inl (cI, 16, .inl ((asB g o k d).ty))), (r 29, .inl (cI, 16, .inl ((asB g o k d).sp))), (r 30, .inl (cJ, 24, .inr (.inl ((asB g o k d).z.1)))), (r 31, .inl (cI, 24, .inl ((asB g o k d).z.2.1))), (r 32, .inl (cZ, 24, .inl ((asB g o k d).z.2.2.1))), (r 33, .inl (cJ, 24, .inr (.inl ((asB g o k d).z.2.2.2)))), (r 34, .inl (cI, 24, .inl o.oI)), (r 35, .inl (cZ, 4, .inl o.oA)), (r 36, .inl (cJ, 4, .inr (.inl o.oW))), (r 37, .inl (cI, 16, .inl o.oT)), (r 38, .inl (cI, 16, .inl o.oS)), (r 39, .inl (cJ, 24, .inr (.inl o.z.1))), (r 40, .inl (cI, 24, .inl o.z.2.1)), (r 41, .inl (cZ, 24, .inl o.z.2.2.1)), (r 42, .inl (cJ, 24, .inr (.inl o.z.2.2.2)))] [(cI, .int), (cJ, .long), (cZ, .boolean)] t) (A)) ([.ref h, .int (nI k), .int (nI d)]).toArray s 0 0 (A)) (F0 m 147 ls []) := by
          intro N147
          induction N147 with
          | zero => intro j2 H locs ls hm hj hl hP hD hS; exact absurd hm (Nat.not_lt_zero _)
          | succ N147 ih147 =>
            intro j2 H locs ls hm hj hl hP hD hS
            refine lv_iload_n hx hb d_Mo_asBefore_147 rfl (lv_at hl 3 rfl) ?_
            refine lv_bipush (v := 6) hx hb d_Mo_asBefore_148 (by decide) ?_
            refine lv_icmp_ge (tgt := 247) hx hb d_Mo_asBefore_150 rfl (fun h150 => ?_) (fun h150 => ?_)
            · have h150 := (nI_leI (a := 6) (by omega) (by omega)).mp h150
              obtain rfl : j2 = 6 := by omega
              have hP9 := hP.sub (ws' := [(h, .inr (13, mO r th si le lv pg pn pl rs)), (r 20, .inl (cI, 4, .inl ((asB g o k d).nu))), (r 21, .inl (cI, 4, .inl ((asB g o k d).pi))), (r 22, .inl (cI, 4, .inl ((asB g o k d).vs))), (r 23, .inl (cI, 4, .inl ((asB g o k d).cp))), (r 24, .inl (cI, 4, .inl ((asB g o k d).sc))), (r 25, .inl (cZ, 4, .inl ((asB g o k d).aw))), (r 26, .inl (cJ, 4, .inr (.inl ((asB g o k d).nw)))), (r 27, .inl (cI, 4, .inl ((asB g o k d).wt))), (r 28, .inl (cI, 16, .inl (cqA g.ty (4 * k) o.oT (4 * d) 4))), (r 29, .inl (cI, 16, .inl (cqA g.sp (4 * k) o.oS (4 * d) 4))), (r 30, .inl (cJ, 24, .inr (.inl (cqL g.z.1 (6 * k) o.z.1 (6 * d) 6)))), (r 31, .inl (cI, 24, .inl (cqA g.z.2.1 (6 * k) o.z.2.1 (6 * d) 6))), (r 32, .inl (cZ, 24, .inl (cqB g.z.2.2.1 (6 * k) o.z.2.2.1 (6 * d) 6))), (r 33, .inl (cJ, 24, .inr (.inl (cqL g.z.2.2.2 (6 * k) o.z.2.2.2 (6 * d) 6)))), (r 34, .inl (cI, 24, .inl o.oI)), (r 35, .inl (cZ, 4, .inl o.oA)), (r 36, .inl (cJ, 4, .inr (.inl o.oW))), (r 37, .inl (cI, 16, .inl o.oT)), (r 38, .inl (cI, 16, .inl o.oS)), (r 39, .inl (cJ, 24, .inr (.inl o.z.1))), (r 40, .inl (cI, 24, .inl o.z.2.1)), (r 41, .inl (cZ, 24, .inl o.z.2.2.1)), (r 42, .inl (cJ, 24, .inr (.inl o.z.2.2.2)))]) [0, 1, 2, 3, 4, 5, 6, 7, 8, 9, 10, 11, 12, 13, 14, 15, 16, 17, 18, 19, 20, 21, 22, 23] rfl
              have hD9 := hD.sub (ws' := [(h, .inr (13, mO r th si le lv pg pn pl rs)), (r 20, .inl (cI, 4, .inl ((asB g o k d).nu))), (r 21, .inl (cI, 4, .inl ((asB g o k d).pi))), (r 22, .inl (cI, 4, .inl ((asB g o k d).vs))), (r 23, .inl (cI, 4, .inl ((asB g o k d).cp))), (r 24, .inl (cI, 4, .inl ((asB g o k d).sc))), (r 25, .inl (cZ, 4, .inl ((asB g o k d).aw))), (r 26, .inl (cJ, 4, .inr (.inl ((asB g o k d).nw)))), (r 27, .inl (cI, 4, .inl ((asB g o k d).wt))), (r 28, .inl (cI, 16, .inl (cqA g.ty (4 * k) o.oT (4 * d) 4))), (r 29, .inl (cI, 16, .inl (cqA g.sp (4 * k) o.oS (4 * d) 4))), (r 30, .inl (cJ, 24, .inr (.inl (cqL g.z.1 (6 * k) o.z.1 (6 * d) 6)))), (r 31, .inl (cI, 24, .inl (cqA g.z.2.1 (6 * k) o.z.2.1 (6 * d) 6))), (r 32, .inl (cZ, 24, .inl (cqB g.z.2.2.1 (6 * k) o.z.2.2.1 (6 * d) 6))), (r 33, .inl (cJ, 24, .inr (.inl (cqL g.z.2.2.2 (6 * k) o.z.2.2.2 (6 * d) 6)))), (r 34, .inl (cI, 24, .inl o.oI)), (r 35, .inl (cZ, 4, .inl o.oA)), (r 36, .inl (cJ, 4, .inr (.inl o.oW))), (r 37, .inl (cI, 16, .inl o.oT)), (r 38, .inl (cI, 16, .inl o.oS)), (r 39, .inl (cJ, 24, .inr (.inl o.z.1))), (r 40, .inl (cI, 24, .inl o.z.2.1)), (r 41, .inl (cZ, 24, .inl o.z.2.2.1)), (r 42, .inl (cJ, 24, .inr (.inl o.z.2.2.2)))]) [0, 1, 2, 3, 4, 5, 6, 7, 8, 9, 10, 11, 12, 13, 14, 15, 16, 17, 18, 19, 20, 21, 22, 23] (by decide) rfl
              have hK9 := hK.sub (tys' := [(cI, .int), (cJ, .long), (cZ, .boolean)]) [0, 1, 2] rfl
              exact W.vret hx hb hr (fun t ht hW => ⟨⟨(), rfl, trivial, ⟨by rw [ht]; exact hP9, va_K.moved hW.alike hK9, hD9⟩⟩, hS.F ht⟩) hS.2.2 d_Mo_asBefore_247
            · have h150 := mt (nI_leI (a := 6) (by omega) (by omega)).mpr h150
              refine lv_aload_n hx hb d_Mo_asBefore_153 rfl (lv_at hl 0 rfl) ?_
              refine va_get (D := D) (ci := 13) (v := .ref (r 30)) (C := R_Mo) (T := F_Mo) (N := 54) hx hb hts i_Mo hown hK hP 0 rfl rfl 30 (by decide) (hts _ wd_1118) (fun _ h9 => h9) rfl d_Mo_asBefore_154 ?_
              refine lv_bipush (v := 6) hx hb d_Mo_asBefore_157 (by decide) ?_
              refine lv_iload_n hx hb d_Mo_asBefore_159 rfl (lv_at hl 1 rfl) ?_
              refine lv_imul hx hb d_Mo_asBefore_160 ?_
              refine z_topi (w := nI (6 * k)) (pk_mul 6 _) ?_
              refine lv_iload_n hx hb d_Mo_asBefore_161 rfl (lv_at hl 3 rfl) ?_
              refine lv_iadd hx hb d_Mo_asBefore_162 ?_
              refine z_topi (w := nI (6 * k + j2)) (nI_add _ _) ?_
              refine lv_aload_n hx hb d_Mo_asBefore_163 rfl (lv_at hl 0 rfl) ?_
              refine va_get (D := D) (ci := 13) (v := .ref (r 39)) (C := R_Mo) (T := F_Mo) (N := 54) hx hb hts i_Mo hown hK hP 0 rfl rfl 39 (by decide) (hts _ wd_1127) (fun _ h9 => h9) rfl d_Mo_asBefore_164 ?_
              refine lv_bipush (v := 6) hx hb d_Mo_asBefore_167 (by decide) ?_
              refine lv_iload_n hx hb d_Mo_asBefore_169 rfl (lv_at hl 2 rfl) ?_
              refine lv_imul hx hb d_Mo_asBefore_170 ?_
              refine z_topi (w := nI (6 * d)) (pk_mul 6 _) ?_
              refine lv_iload_n hx hb d_Mo_asBefore_171 rfl (lv_at hl 3 rfl) ?_
              refine lv_iadd hx hb d_Mo_asBefore_172 ?_
              refine z_topi (w := nI (6 * d + j2)) (nI_add _ _) ?_
              refine z_lald hx hb hK hP 20 1 rfl rfl (6 * d + j2) rfl (by omega) (by omega) d_Mo_asBefore_173 ?_
              refine z_last hx hb hK hP hD hS 11 1 rfl rfl (6 * k + j2) rfl (by omega) (by omega) d_Mo_asBefore_174 (fun H locs hP hD hS => ?_)
              have hP : va_P D classes [(h, .inr (13, mO r th si le lv pg pn pl rs)), (r 20, .inl (cI, 4, .inl ((asB g o k d).nu))), (r 21, .inl (cI, 4, .inl ((asB g o k d).pi))), (r 22, .inl (cI, 4, .inl ((asB g o k d).vs))), (r 23, .inl (cI, 4, .inl ((asB g o k d).cp))), (r 24, .inl (cI, 4, .inl ((asB g o k d).sc))), (r 25, .inl (cZ, 4, .inl ((asB g o k d).aw))), (r 26, .inl (cJ, 4, .inr (.inl ((asB g o k d).nw)))), (r 27, .inl (cI, 4, .inl ((asB g o k d).wt))), (r 28, .inl (cI, 16, .inl (cqA g.ty (4 * k) o.oT (4 * d) 4))), (r 29, .inl (cI, 16, .inl (cqA g.sp (4 * k) o.oS (4 * d) 4))), (r 30, .inl (cJ, 24, .inr (.inl (vp_updL (cqL g.z.1 (6 * k) o.z.1 (6 * d) j2) (6 * k + j2) (o.z.1 (6 * d + j2)))))), (r 31, .inl (cI, 24, .inl (cqA g.z.2.1 (6 * k) o.z.2.1 (6 * d) j2))), (r 32, .inl (cZ, 24, .inl (cqB g.z.2.2.1 (6 * k) o.z.2.2.1 (6 * d) j2))), (r 33, .inl (cJ, 24, .inr (.inl (cqL g.z.2.2.2 (6 * k) o.z.2.2.2 (6 * d) j2)))), (r 34, .inl (cI, 24, .inl o.oI)), (r 35, .inl (cZ, 4, .inl o.oA)), (r 36, .inl (cJ, 4, .inr (.inl o.oW))), (r 37, .inl (cI, 16, .inl o.oT)), (r 38, .inl (cI, 16, .inl o.oS)), (r 39, .inl (cJ, 24, .inr (.inl o.z.1))), (r 40, .inl (cI, 24, .inl o.z.2.1)), (r 41, .inl (cZ, 24, .inl o.z.2.2.1)), (r 42, .inl (cJ, 24, .inr (.inl o.z.2.2.2)))] H := hP
              have hD : va_D A [(h, .inr (13, mO r th si le lv pg pn pl rs)), (r 20, .inl (cI, 4, .inl ((asB g o k d).nu))), (r 21, .inl (cI, 4, .inl ((asB g o k d).pi))), (r 22, .inl (cI, 4, .inl ((asB g o k d).vs))), (r 23, .inl (cI, 4, .inl ((asB g o k d).cp))), (r 24, .inl (cI, 4, .inl ((asB g o k d).sc))), (r 25, .inl (cZ, 4, .inl ((asB g o k d).aw))), (r 26, .inl (cJ, 4, .inr (.inl ((asB g o k d).nw)))), (r 27, .inl (cI, 4, .inl ((asB g o k d).wt))), (r 28, .inl (cI, 16, .inl (cqA g.ty (4 * k) o.oT (4 * d) 4))), (r 29, .inl (cI, 16, .inl (cqA g.sp (4 * k) o.oS (4 * d) 4))), (r 30, .inl (cJ, 24, .inr (.inl (vp_updL (cqL g.z.1 (6 * k) o.z.1 (6 * d) j2) (6 * k + j2) (o.z.1 (6 * d + j2)))))), (r 31, .inl (cI, 24, .inl (cqA g.z.2.1 (6 * k) o.z.2.1 (6 * d) j2))), (r 32, .inl (cZ, 24, .inl (cqB g.z.2.2.1 (6 * k) o.z.2.2.1 (6 * d) j2))), (r 33, .inl (cJ, 24, .inr (.inl (cqL g.z.2.2.2 (6 * k) o.z.2.2.2 (6 * d) j2)))), (r 34, .inl (cI, 24, .inl o.oI)), (r 35, .inl (cZ, 4, .inl o.oA)), (r 36, .inl (cJ, 4, .inr (.inl o.oW))), (r 37, .inl (cI, 16, .inl o.oT)), (r 38, .inl (cI, 16, .inl o.oS)), (r 39, .inl (cJ, 24, .inr (.inl o.z.1))), (r 40, .inl (cI, 24, .inl o.z.2.1)), (r 41, .inl (cZ, 24, .inl o.z.2.2.1)), (r 42, .inl (cJ, 24, .inr (.inl o.z.2.2.2)))] := hD
              refine lv_aload_n hx hb d_Mo_asBefore_175 rfl (lv_at hl 0 rfl) ?_
              refine va_get (D := D) (ci := 13) (v := .ref (r 31)) (C := R_Mo) (T := F_Mo) (N := 54) hx hb hts i_Mo hown hK hP 0 rfl rfl 31 (by decide) (hts _ wd_1119) (fun _ h9 => h9) rfl d_Mo_asBefore_176 ?_
              refine lv_bipush (v := 6) hx hb d_Mo_asBefore_179 (by decide) ?_
              refine lv_iload_n hx hb d_Mo_asBefore_181 rfl (lv_at hl 1 rfl) ?_
              refine lv_imul hx hb d_Mo_asBefore_182 ?_
              refine z_topi (w := nI (6 * k)) (pk_mul 6 _) ?_
              refine lv_iload_n hx hb d_Mo_asBefore_183 rfl (lv_at hl 3 rfl) ?_
              refine lv_iadd hx hb d_Mo_asBefore_184 ?_
              refine z_topi (w := nI (6 * k + j2)) (nI_add _ _) ?_
              refine lv_aload_n hx hb d_Mo_asBefore_185 rfl (lv_at hl 0 rfl) ?_
              refine va_get (D := D) (ci := 13) (v := .ref (r 40)) (C := R_Mo) (T := F_Mo) (N := 54) hx hb hts i_Mo hown hK hP 0 rfl rfl 40 (by decide) (hts _ wd_1128) (fun _ h9 => h9) rfl d_Mo_asBefore_186 ?_
              refine lv_bipush (v := 6) hx hb d_Mo_asBefore_189 (by decide) ?_
              refine lv_iload_n hx hb d_Mo_asBefore_191 rfl (lv_at hl 2 rfl) ?_
              refine lv_imul hx hb d_Mo_asBefore_192 ?_
              refine z_topi (w := nI (6 * d)) (pk_mul 6 _) ?_
              refine lv_iload_n hx hb d_Mo_asBefore_193 rfl (lv_at hl 3 rfl) ?_
              refine lv_iadd hx hb d_Mo_asBefore_194 ?_
              refine z_topi (w := nI (6 * d + j2)) (nI_add _ _) ?_
              refine z_iald hx hb hK hP 21 0 rfl rfl (6 * d + j2) rfl (by omega) (by omega) d_Mo_asBefore_195 ?_
              refine z_iast hx hb hK hP hD hS 12 0 rfl rfl (6 * k + j2) rfl (by omega) (by omega) d_Mo_asBefore_196 (fun H locs hP hD hS => ?_)
              have hP : va_P D classes [(h, .inr (13, mO r th si le lv pg pn pl rs)), (r 20, .inl (cI, 4, .inl ((asB g o k d).nu))), (r 21, .inl (cI, 4, .inl ((asB g o k d).pi))), (r 22, .inl (cI, 4, .inl ((asB g o k d).vs))), (r 23, .inl (cI, 4, .inl ((asB g o k d).cp))), (r 24, .inl (cI, 4, .inl ((asB g o k d).sc))), (r 25, .inl (cZ, 4, .inl ((asB g o k d).aw))), (r 26, .inl (cJ, 4, .inr (.inl ((asB g o k d).nw)))), (r 27, .inl (cI, 4, .inl ((asB g o k d).wt))), (r 28, .inl (cI, 16, .inl (cqA g.ty (4 * k) o.oT (4 * d) 4))), (r 29, .inl (cI, 16, .inl (cqA g.sp (4 * k) o.oS (4 * d) 4))), (r 30, .inl (cJ, 24, .inr (.inl (vp_updL (cqL g.z.1 (6 * k) o.z.1 (6 * d) j2) (6 * k + j2) (o.z.1 (6 * d + j2)))))), (r 31, .inl (cI, 24, .inl (upd (cqA g.z.2.1 (6 * k) o.z.2.1 (6 * d) j2) (6 * k + j2) (o.z.2.1 (6 * d + j2))))), (r 32, .inl (cZ, 24, .inl (cqB g.z.2.2.1 (6 * k) o.z.2.2.1 (6 * d) j2))), (r 33, .inl (cJ, 24, .inr (.inl (cqL g.z.2.2.2 (6 * k) o.z.2.2.2 (6 * d) j2)))), (r 34, .inl (cI, 24, .inl o.oI)), (r 35, .inl (cZ, 4, .inl o.oA)), (r 36, .inl (cJ, 4, .inr (.inl o.oW))), (r 37, .inl (cI, 16, .inl o.oT)), (r 38, .inl (cI, 16, .inl o.oS)), (r 39, .inl (cJ, 24, .inr (.inl o.z.1))), (r 40, .inl (cI, 24, .inl o.z.2.1)), (r 41, .inl (cZ, 24, .inl o.z.2.2.1)), (r 42, .inl (cJ, 24, .inr (.inl o.z.2.2.2)))] H := hP
              have hD : va_D A [(h, .inr (13, mO r th si le lv pg pn pl rs)), (r 20, .inl (cI, 4, .inl ((asB g o k d).nu))), (r 21, .inl (cI, 4, .inl ((asB g o k d).pi))), (r 22, .inl (cI, 4, .inl ((asB g o k d).vs))), (r 23, .inl (cI, 4, .inl ((asB g o k d).cp))), (r 24, .inl (cI, 4, .inl ((asB g o k d).sc))), (r 25, .inl (cZ, 4, .inl ((asB g o k d).aw))), (r 26, .inl (cJ, 4, .inr (.inl ((asB g o k d).nw)))), (r 27, .inl (cI, 4, .inl ((asB g o k d).wt))), (r 28, .inl (cI, 16, .inl (cqA g.ty (4 * k) o.oT (4 * d) 4))), (r 29, .inl (cI, 16, .inl (cqA g.sp (4 * k) o.oS (4 * d) 4))), (r 30, .inl (cJ, 24, .inr (.inl (vp_updL (cqL g.z.1 (6 * k) o.z.1 (6 * d) j2) (6 * k + j2) (o.z.1 (6 * d + j2)))))), (r 31, .inl (cI, 24, .inl (upd (cqA g.z.2.1 (6 * k) o.z.2.1 (6 * d) j2) (6 * k + j2) (o.z.2.1 (6 * d + j2))))), (r 32, .inl (cZ, 24, .inl (cqB g.z.2.2.1 (6 * k) o.z.2.2.1 (6 * d) j2))), (r 33, .inl (cJ, 24, .inr (.inl (cqL g.z.2.2.2 (6 * k) o.z.2.2.2 (6 * d) j2)))), (r 34, .inl (cI, 24, .inl o.oI)), (r 35, .inl (cZ, 4, .inl o.oA)), (r 36, .inl (cJ, 4, .inr (.inl o.oW))), (r 37, .inl (cI, 16, .inl o.oT)), (r 38, .inl (cI, 16, .inl o.oS)), (r 39, .inl (cJ, 24, .inr (.inl o.z.1))), (r 40, .inl (cI, 24, .inl o.z.2.1)), (r 41, .inl (cZ, 24, .inl o.z.2.2.1)), (r 42, .inl (cJ, 24, .inr (.inl o.z.2.2.2)))] := hD
              refine lv_aload_n hx hb d_Mo_asBefore_197 rfl (lv_at hl 0 rfl) ?_
              refine va_get (D := D) (ci := 13) (v := .ref (r 32)) (C := R_Mo) (T := F_Mo) (N := 54) hx hb hts i_Mo hown hK hP 0 rfl rfl 32 (by decide) (hts _ wd_1120) (fun _ h9 => h9) rfl d_Mo_asBefore_198 ?_
              refine lv_bipush (v := 6) hx hb d_Mo_asBefore_201 (by decide) ?_
              refine lv_iload_n hx hb d_Mo_asBefore_203 rfl (lv_at hl 1 rfl) ?_
              refine lv_imul hx hb d_Mo_asBefore_204 ?_
              refine z_topi (w := nI (6 * k)) (pk_mul 6 _) ?_
              refine lv_iload_n hx hb d_Mo_asBefore_205 rfl (lv_at hl 3 rfl) ?_
              refine lv_iadd hx hb d_Mo_asBefore_206 ?_
              refine z_topi (w := nI (6 * k + j2)) (nI_add _ _) ?_
              refine lv_aload_n hx hb d_Mo_asBefore_207 rfl (lv_at hl 0 rfl) ?_
              refine va_get (D := D) (ci := 13) (v := .ref (r 41)) (C := R_Mo) (T := F_Mo) (N := 54) hx hb hts i_Mo hown hK hP 0 rfl rfl 41 (by decide) (hts _ wd_1129) (fun _ h9 => h9) rfl d_Mo_asBefore_208 ?_
              refine lv_bipush (v := 6) hx hb d_Mo_asBefore_211 (by decide) ?_
              refine lv_iload_n hx hb d_Mo_asBefore_213 rfl (lv_at hl 2 rfl) ?_
              refine lv_imul hx hb d_Mo_asBefore_214 ?_
              refine z_topi (w := nI (6 * d)) (pk_mul 6 _) ?_
              refine lv_iload_n hx hb d_Mo_asBefore_215 rfl (lv_at hl 3 rfl) ?_
              refine lv_iadd hx hb d_Mo_asBefore_216 ?_
              refine z_topi (w := nI (6 * d + j2)) (nI_add _ _) ?_
              refine z_zald hx hb hK hP 22 2 rfl rfl (6 * d + j2) rfl (by omega) (by omega) d_Mo_asBefore_217 ?_
              refine z_zast hx hb hK hP hD hS 13 2 rfl rfl (6 * k + j2) rfl (by omega) (by omega) d_Mo_asBefore_218 (fun H locs hP hD hS => ?_)
              have hP : va_P D classes [(h, .inr (13, mO r th si le lv pg pn pl rs)), (r 20, .inl (cI, 4, .inl ((asB g o k d).nu))), (r 21, .inl (cI, 4, .inl ((asB g o k d).pi))), (r 22, .inl (cI, 4, .inl ((asB g o k d).vs))), (r 23, .inl (cI, 4, .inl ((asB g o k d).cp))), (r 24, .inl (cI, 4, .inl ((asB g o k d).sc))), (r 25, .inl (cZ, 4, .inl ((asB g o k d).aw))), (r 26, .inl (cJ, 4, .inr (.inl ((asB g o k d).nw)))), (r 27, .inl (cI, 4, .inl ((asB g o k d).wt))), (r 28, .inl (cI, 16, .inl (cqA g.ty (4 * k) o.oT (4 * d) 4))), (r 29, .inl (cI, 16, .inl (cqA g.sp (4 * k) o.oS (4 * d) 4))), (r 30, .inl (cJ, 24, .inr (.inl (vp_updL (cqL g.z.1 (6 * k) o.z.1 (6 * d) j2) (6 * k + j2) (o.z.1 (6 * d + j2)))))), (r 31, .inl (cI, 24, .inl (upd (cqA g.z.2.1 (6 * k) o.z.2.1 (6 * d) j2) (6 * k + j2) (o.z.2.1 (6 * d + j2))))), (r 32, .inl (cZ, 24, .inl (upd (cqB g.z.2.2.1 (6 * k) o.z.2.2.1 (6 * d) j2) (6 * k + j2) (vp_nar .boolean (o.z.2.2.1 (6 * d + j2)))))), (r 33, .inl (cJ, 24, .inr (.inl (cqL g.z.2.2.2 (6 * k) o.z.2.2.2 (6 * d) j2)))), (r 34, .inl (cI, 24, .inl o.oI)), (r 35, .inl (cZ, 4, .inl o.oA)), (r 36, .inl (cJ, 4, .inr (.inl o.oW))), (r 37, .inl (cI, 16, .inl o.oT)), (r 38, .inl (cI, 16, .inl o.oS)), (r 39, .inl (cJ, 24, .inr (.inl o.z.1))), (r 40, .inl (cI, 24, .inl o.z.2.1)), (r 41, .inl (cZ, 24, .inl o.z.2.2.1)), (r 42, .inl (cJ, 24, .inr (.inl o.z.2.2.2)))] H := hP
              have hD : va_D A [(h, .inr (13, mO r th si le lv pg pn pl rs)), (r 20, .inl (cI, 4, .inl ((asB g o k d).nu))), (r 21, .inl (cI, 4, .inl ((asB g o k d).pi))), (r 22, .inl (cI, 4, .inl ((asB g o k d).vs))), (r 23, .inl (cI, 4, .inl ((asB g o k d).cp))), (r 24, .inl (cI, 4, .inl ((asB g o k d).sc))), (r 25, .inl (cZ, 4, .inl ((asB g o k d).aw))), (r 26, .inl (cJ, 4, .inr (.inl ((asB g o k d).nw)))), (r 27, .inl (cI, 4, .inl ((asB g o k d).wt))), (r 28, .inl (cI, 16, .inl (cqA g.ty (4 * k) o.oT (4 * d) 4))), (r 29, .inl (cI, 16, .inl (cqA g.sp (4 * k) o.oS (4 * d) 4))), (r 30, .inl (cJ, 24, .inr (.inl (vp_updL (cqL g.z.1 (6 * k) o.z.1 (6 * d) j2) (6 * k + j2) (o.z.1 (6 * d + j2)))))), (r 31, .inl (cI, 24, .inl (upd (cqA g.z.2.1 (6 * k) o.z.2.1 (6 * d) j2) (6 * k + j2) (o.z.2.1 (6 * d + j2))))), (r 32, .inl (cZ, 24, .inl (upd (cqB g.z.2.2.1 (6 * k) o.z.2.2.1 (6 * d) j2) (6 * k + j2) (vp_nar .boolean (o.z.2.2.1 (6 * d + j2)))))), (r 33, .inl (cJ, 24, .inr (.inl (cqL g.z.2.2.2 (6 * k) o.z.2.2.2 (6 * d) j2)))), (r 34, .inl (cI, 24, .inl o.oI)), (r 35, .inl (cZ, 4, .inl o.oA)), (r 36, .inl (cJ, 4, .inr (.inl o.oW))), (r 37, .inl (cI, 16, .inl o.oT)), (r 38, .inl (cI, 16, .inl o.oS)), (r 39, .inl (cJ, 24, .inr (.inl o.z.1))), (r 40, .inl (cI, 24, .inl o.z.2.1)), (r 41, .inl (cZ, 24, .inl o.z.2.2.1)), (r 42, .inl (cJ, 24, .inr (.inl o.z.2.2.2)))] := hD
              refine lv_aload_n hx hb d_Mo_asBefore_219 rfl (lv_at hl 0 rfl) ?_
              refine va_get (D := D) (ci := 13) (v := .ref (r 33)) (C := R_Mo) (T := F_Mo) (N := 54) hx hb hts i_Mo hown hK hP 0 rfl rfl 33 (by decide) (hts _ wd_1121) (fun _ h9 => h9) rfl d_Mo_asBefore_220 ?_
              refine lv_bipush (v := 6) hx hb d_Mo_asBefore_223 (by decide) ?_
              refine lv_iload_n hx hb d_Mo_asBefore_225 rfl (lv_at hl 1 rfl) ?_
              refine lv_imul hx hb d_Mo_asBefore_226 ?_
              refine z_topi (w := nI (6 * k)) (pk_mul 6 _) ?_
              refine lv_iload_n hx hb d_Mo_asBefore_227 rfl (lv_at hl 3 rfl) ?_
              refine lv_iadd hx hb d_Mo_asBefore_228 ?_
              refine z_topi (w := nI (6 * k + j2)) (nI_add _ _) ?_
              refine lv_aload_n hx hb d_Mo_asBefore_229 rfl (lv_at hl 0 rfl) ?_
              refine va_get (D := D) (ci := 13) (v := .ref (r 42)) (C := R_Mo) (T := F_Mo) (N := 54) hx hb hts i_Mo hown hK hP 0 rfl rfl 42 (by decide) (hts _ wd_1130) (fun _ h9 => h9) rfl d_Mo_asBefore_230 ?_
              refine lv_bipush (v := 6) hx hb d_Mo_asBefore_233 (by decide) ?_
              refine lv_iload_n hx hb d_Mo_asBefore_235 rfl (lv_at hl 2 rfl) ?_
              refine lv_imul hx hb d_Mo_asBefore_236 ?_
              refine z_topi (w := nI (6 * d)) (pk_mul 6 _) ?_
              refine lv_iload_n hx hb d_Mo_asBefore_237 rfl (lv_at hl 3 rfl) ?_
              refine lv_iadd hx hb d_Mo_asBefore_238 ?_
              refine z_topi (w := nI (6 * d + j2)) (nI_add _ _) ?_
              refine z_lald hx hb hK hP 23 1 rfl rfl (6 * d + j2) rfl (by omega) (by omega) d_Mo_asBefore_239 ?_
              refine z_last hx hb hK hP hD hS 14 1 rfl rfl (6 * k + j2) rfl (by omega) (by omega) d_Mo_asBefore_240 (fun H locs hP hD hS => ?_)
              have hP : va_P D classes [(h, .inr (13, mO r th si le lv pg pn pl rs)), (r 20, .inl (cI, 4, .inl ((asB g o k d).nu))), (r 21, .inl (cI, 4, .inl ((asB g o k d).pi))), (r 22, .inl (cI, 4, .inl ((asB g o k d).vs))), (r 23, .inl (cI, 4, .inl ((asB g o k d).cp))), (r 24, .inl (cI, 4, .inl ((asB g o k d).sc))), (r 25, .inl (cZ, 4, .inl ((asB g o k d).aw))), (r 26, .inl (cJ, 4, .inr (.inl ((asB g o k d).nw)))), (r 27, .inl (cI, 4, .inl ((asB g o k d).wt))), (r 28, .inl (cI, 16, .inl (cqA g.ty (4 * k) o.oT (4 * d) 4))), (r 29, .inl (cI, 16, .inl (cqA g.sp (4 * k) o.oS (4 * d) 4))), (r 30, .inl (cJ, 24, .inr (.inl (vp_updL (cqL g.z.1 (6 * k) o.z.1 (6 * d) j2) (6 * k + j2) (o.z.1 (6 * d + j2)))))), (r 31, .inl (cI, 24, .inl (upd (cqA g.z.2.1 (6 * k) o.z.2.1 (6 * d) j2) (6 * k + j2) (o.z.2.1 (6 * d + j2))))), (r 32, .inl (cZ, 24, .inl (upd (cqB g.z.2.2.1 (6 * k) o.z.2.2.1 (6 * d) j2) (6 * k + j2) (vp_nar .boolean (o.z.2.2.1 (6 * d + j2)))))), (r 33, .inl (cJ, 24, .inr (.inl (vp_updL (cqL g.z.2.2.2 (6 * k) o.z.2.2.2 (6 * d) j2) (6 * k + j2) (o.z.2.2.2 (6 * d + j2)))))), (r 34, .inl (cI, 24, .inl o.oI)), (r 35, .inl (cZ, 4, .inl o.oA)), (r 36, .inl (cJ, 4, .inr (.inl o.oW))), (r 37, .inl (cI, 16, .inl o.oT)), (r 38, .inl (cI, 16, .inl o.oS)), (r 39, .inl (cJ, 24, .inr (.inl o.z.1))), (r 40, .inl (cI, 24, .inl o.z.2.1)), (r 41, .inl (cZ, 24, .inl o.z.2.2.1)), (r 42, .inl (cJ, 24, .inr (.inl o.z.2.2.2)))] H := hP
              have hD : va_D A [(h, .inr (13, mO r th si le lv pg pn pl rs)), (r 20, .inl (cI, 4, .inl ((asB g o k d).nu))), (r 21, .inl (cI, 4, .inl ((asB g o k d).pi))), (r 22, .inl (cI, 4, .inl ((asB g o k d).vs))), (r 23, .inl (cI, 4, .inl ((asB g o k d).cp))), (r 24, .inl (cI, 4, .inl ((asB g o k d).sc))), (r 25, .inl (cZ, 4, .inl ((asB g o k d).aw))), (r 26, .inl (cJ, 4, .inr (.inl ((asB g o k d).nw)))), (r 27, .inl (cI, 4, .inl ((asB g o k d).wt))), (r 28, .inl (cI, 16, .inl (cqA g.ty (4 * k) o.oT (4 * d) 4))), (r 29, .inl (cI, 16, .inl (cqA g.sp (4 * k) o.oS (4 * d) 4))), (r 30, .inl (cJ, 24, .inr (.inl (vp_updL (cqL g.z.1 (6 * k) o.z.1 (6 * d) j2) (6 * k + j2) (o.z.1 (6 * d + j2)))))), (r 31, .inl (cI, 24, .inl (upd (cqA g.z.2.1 (6 * k) o.z.2.1 (6 * d) j2) (6 * k + j2) (o.z.2.1 (6 * d + j2))))), (r 32, .inl (cZ, 24, .inl (upd (cqB g.z.2.2.1 (6 * k) o.z.2.2.1 (6 * d) j2) (6 * k + j2) (vp_nar .boolean (o.z.2.2.1 (6 * d + j2)))))), (r 33, .inl (cJ, 24, .inr (.inl (vp_updL (cqL g.z.2.2.2 (6 * k) o.z.2.2.2 (6 * d) j2) (6 * k + j2) (o.z.2.2.2 (6 * d + j2)))))), (r 34, .inl (cI, 24, .inl o.oI)), (r 35, .inl (cZ, 4, .inl o.oA)), (r 36, .inl (cJ, 4, .inr (.inl o.oW))), (r 37, .inl (cI, 16, .inl o.oT)), (r 38, .inl (cI, 16, .inl o.oS)), (r 39, .inl (cJ, 24, .inr (.inl o.z.1))), (r 40, .inl (cI, 24, .inl o.z.2.1)), (r 41, .inl (cZ, 24, .inl o.z.2.2.1)), (r 42, .inl (cJ, 24, .inr (.inl o.z.2.2.2)))] := hD
              refine lv_iinc (k := 3) (v := nI (j2 + 1)) (lv' := [(3, .int (nI (j2 + 1))), (0, .ref h), (1, .int (nI k)), (2, .int (nI d))]) hx hb d_Mo_asBefore_241 hl rfl (nI_1 j2) (by decide) rfl (fun ls hl => ?_)
              refine lv_goto (tgt := 147) hx hb d_Mo_asBefore_244 rfl ?_
              exact ih147 (j2 + 1) H locs ls (by omega) (by omega) (lv_sub hl [1, 2, 3, 0] rfl) hP hD hS
        exact loop147 _ 0 H locs ls (Nat.lt_succ_self _) (Nat.zero_le _) (lv_sub hl [1, 2, 3, 0] rfl) hP hD hS
      · have h96 := mt (nI_leI (a := 4) (by omega) (by omega)).mpr h96
        refine lv_aload_n hx hb d_Mo_asBefore_99 rfl (lv_at hl 0 rfl) ?_
        refine va_get (D := D) (ci := 13) (v := .ref (r 28)) (C := R_Mo) (T := F_Mo) (N := 54) hx hb hts i_Mo hown hK hP 0 rfl rfl 28 (by decide) (hts _ wd_1116) (fun _ h9 => h9) rfl d_Mo_asBefore_100 ?_
        refine lv_iconst (v := 4) hx hb d_Mo_asBefore_103 (by decide) ?_
        refine lv_iload_n hx hb d_Mo_asBefore_104 rfl (lv_at hl 1 rfl) ?_
        refine lv_imul hx hb d_Mo_asBefore_105 ?_
        refine z_topi (w := nI (4 * k)) (pk_mul 4 _) ?_
        refine lv_iload_n hx hb d_Mo_asBefore_106 rfl (lv_at hl 3 rfl) ?_
        refine lv_iadd hx hb d_Mo_asBefore_107 ?_
        refine z_topi (w := nI (4 * k + j)) (nI_add _ _) ?_
        refine lv_aload_n hx hb d_Mo_asBefore_108 rfl (lv_at hl 0 rfl) ?_
        refine va_get (D := D) (ci := 13) (v := .ref (r 37)) (C := R_Mo) (T := F_Mo) (N := 54) hx hb hts i_Mo hown hK hP 0 rfl rfl 37 (by decide) (hts _ wd_1125) (fun _ h9 => h9) rfl d_Mo_asBefore_109 ?_
        refine lv_iconst (v := 4) hx hb d_Mo_asBefore_112 (by decide) ?_
        refine lv_iload_n hx hb d_Mo_asBefore_113 rfl (lv_at hl 2 rfl) ?_
        refine lv_imul hx hb d_Mo_asBefore_114 ?_
        refine z_topi (w := nI (4 * d)) (pk_mul 4 _) ?_
        refine lv_iload_n hx hb d_Mo_asBefore_115 rfl (lv_at hl 3 rfl) ?_
        refine lv_iadd hx hb d_Mo_asBefore_116 ?_
        refine z_topi (w := nI (4 * d + j)) (nI_add _ _) ?_
        refine z_iald hx hb hK hP 18 0 rfl rfl (4 * d + j) rfl (by omega) (by omega) d_Mo_asBefore_117 ?_
        refine z_iast hx hb hK hP hD hS 9 0 rfl rfl (4 * k + j) rfl (by omega) (by omega) d_Mo_asBefore_118 (fun H locs hP hD hS => ?_)
        have hP : va_P D classes [(h, .inr (13, mO r th si le lv pg pn pl rs)), (r 20, .inl (cI, 4, .inl ((asB g o k d).nu))), (r 21, .inl (cI, 4, .inl ((asB g o k d).pi))), (r 22, .inl (cI, 4, .inl ((asB g o k d).vs))), (r 23, .inl (cI, 4, .inl ((asB g o k d).cp))), (r 24, .inl (cI, 4, .inl ((asB g o k d).sc))), (r 25, .inl (cZ, 4, .inl ((asB g o k d).aw))), (r 26, .inl (cJ, 4, .inr (.inl ((asB g o k d).nw)))), (r 27, .inl (cI, 4, .inl ((asB g o k d).wt))), (r 28, .inl (cI, 16, .inl (upd (cqA g.ty (4 * k) o.oT (4 * d) j) (4 * k + j) (o.oT (4 * d + j))))), (r 29, .inl (cI, 16, .inl (cqA g.sp (4 * k) o.oS (4 * d) j))), (r 30, .inl (cJ, 24, .inr (.inl (cqL g.z.1 (6 * k) o.z.1 (6 * d) 0)))), (r 31, .inl (cI, 24, .inl (cqA g.z.2.1 (6 * k) o.z.2.1 (6 * d) 0))), (r 32, .inl (cZ, 24, .inl (cqB g.z.2.2.1 (6 * k) o.z.2.2.1 (6 * d) 0))), (r 33, .inl (cJ, 24, .inr (.inl (cqL g.z.2.2.2 (6 * k) o.z.2.2.2 (6 * d) 0)))), (r 34, .inl (cI, 24, .inl o.oI)), (r 35, .inl (cZ, 4, .inl o.oA)), (r 36, .inl (cJ, 4, .inr (.inl o.oW))), (r 37, .inl (cI, 16, .inl o.oT)), (r 38, .inl (cI, 16, .inl o.oS)), (r 39, .inl (cJ, 24, .inr (.inl o.z.1))), (r 40, .inl (cI, 24, .inl o.z.2.1)), (r 41, .inl (cZ, 24, .inl o.z.2.2.1)), (r 42, .inl (cJ, 24, .inr (.inl o.z.2.2.2)))] H := hP
        have hD : va_D A [(h, .inr (13, mO r th si le lv pg pn pl rs)), (r 20, .inl (cI, 4, .inl ((asB g o k d).nu))), (r 21, .inl (cI, 4, .inl ((asB g o k d).pi))), (r 22, .inl (cI, 4, .inl ((asB g o k d).vs))), (r 23, .inl (cI, 4, .inl ((asB g o k d).cp))), (r 24, .inl (cI, 4, .inl ((asB g o k d).sc))), (r 25, .inl (cZ, 4, .inl ((asB g o k d).aw))), (r 26, .inl (cJ, 4, .inr (.inl ((asB g o k d).nw)))), (r 27, .inl (cI, 4, .inl ((asB g o k d).wt))), (r 28, .inl (cI, 16, .inl (upd (cqA g.ty (4 * k) o.oT (4 * d) j) (4 * k + j) (o.oT (4 * d + j))))), (r 29, .inl (cI, 16, .inl (cqA g.sp (4 * k) o.oS (4 * d) j))), (r 30, .inl (cJ, 24, .inr (.inl (cqL g.z.1 (6 * k) o.z.1 (6 * d) 0)))), (r 31, .inl (cI, 24, .inl (cqA g.z.2.1 (6 * k) o.z.2.1 (6 * d) 0))), (r 32, .inl (cZ, 24, .inl (cqB g.z.2.2.1 (6 * k) o.z.2.2.1 (6 * d) 0))), (r 33, .inl (cJ, 24, .inr (.inl (cqL g.z.2.2.2 (6 * k) o.z.2.2.2 (6 * d) 0)))), (r 34, .inl (cI, 24, .inl o.oI)), (r 35, .inl (cZ, 4, .inl o.oA)), (r 36, .inl (cJ, 4, .inr (.inl o.oW))), (r 37, .inl (cI, 16, .inl o.oT)), (r 38, .inl (cI, 16, .inl o.oS)), (r 39, .inl (cJ, 24, .inr (.inl o.z.1))), (r 40, .inl (cI, 24, .inl o.z.2.1)), (r 41, .inl (cZ, 24, .inl o.z.2.2.1)), (r 42, .inl (cJ, 24, .inr (.inl o.z.2.2.2)))] := hD
        refine lv_aload_n hx hb d_Mo_asBefore_119 rfl (lv_at hl 0 rfl) ?_
        refine va_get (D := D) (ci := 13) (v := .ref (r 29)) (C := R_Mo) (T := F_Mo) (N := 54) hx hb hts i_Mo hown hK hP 0 rfl rfl 29 (by decide) (hts _ wd_1117) (fun _ h9 => h9) rfl d_Mo_asBefore_120 ?_
        refine lv_iconst (v := 4) hx hb d_Mo_asBefore_123 (by decide) ?_
        refine lv_iload_n hx hb d_Mo_asBefore_124 rfl (lv_at hl 1 rfl) ?_
        refine lv_imul hx hb d_Mo_asBefore_125 ?_
        refine z_topi (w := nI (4 * k)) (pk_mul 4 _) ?_
        refine lv_iload_n hx hb d_Mo_asBefore_126 rfl (lv_at hl 3 rfl) ?_
        refine lv_iadd hx hb d_Mo_asBefore_127 ?_
        refine z_topi (w := nI (4 * k + j)) (nI_add _ _) ?_
        refine lv_aload_n hx hb d_Mo_asBefore_128 rfl (lv_at hl 0 rfl) ?_
        refine va_get (D := D) (ci := 13) (v := .ref (r 38)) (C := R_Mo) (T := F_Mo) (N := 54) hx hb hts i_Mo hown hK hP 0 rfl rfl 38 (by decide) (hts _ wd_1126) (fun _ h9 => h9) rfl d_Mo_asBefore_129 ?_
        refine lv_iconst (v := 4) hx hb d_Mo_asBefore_132 (by decide) ?_
        refine lv_iload_n hx hb d_Mo_asBefore_133 rfl (lv_at hl 2 rfl) ?_
        refine lv_imul hx hb d_Mo_asBefore_134 ?_
        refine z_topi (w := nI (4 * d)) (pk_mul 4 _) ?_
        refine lv_iload_n hx hb d_Mo_asBefore_135 rfl (lv_at hl 3 rfl) ?_
        refine lv_iadd hx hb d_Mo_asBefore_136 ?_
        refine z_topi (w := nI (4 * d + j)) (nI_add _ _) ?_
        refine z_iald hx hb hK hP 19 0 rfl rfl (4 * d + j) rfl (by omega) (by omega) d_Mo_asBefore_137 ?_
        refine z_iast hx hb hK hP hD hS 10 0 rfl rfl (4 * k + j) rfl (by omega) (by omega) d_Mo_asBefore_138 (fun H locs hP hD hS => ?_)
        have hP : va_P D classes [(h, .inr (13, mO r th si le lv pg pn pl rs)), (r 20, .inl (cI, 4, .inl ((asB g o k d).nu))), (r 21, .inl (cI, 4, .inl ((asB g o k d).pi))), (r 22, .inl (cI, 4, .inl ((asB g o k d).vs))), (r 23, .inl (cI, 4, .inl ((asB g o k d).cp))), (r 24, .inl (cI, 4, .inl ((asB g o k d).sc))), (r 25, .inl (cZ, 4, .inl ((asB g o k d).aw))), (r 26, .inl (cJ, 4, .inr (.inl ((asB g o k d).nw)))), (r 27, .inl (cI, 4, .inl ((asB g o k d).wt))), (r 28, .inl (cI, 16, .inl (upd (cqA g.ty (4 * k) o.oT (4 * d) j) (4 * k + j) (o.oT (4 * d + j))))), (r 29, .inl (cI, 16, .inl (upd (cqA g.sp (4 * k) o.oS (4 * d) j) (4 * k + j) (o.oS (4 * d + j))))), (r 30, .inl (cJ, 24, .inr (.inl (cqL g.z.1 (6 * k) o.z.1 (6 * d) 0)))), (r 31, .inl (cI, 24, .inl (cqA g.z.2.1 (6 * k) o.z.2.1 (6 * d) 0))), (r 32, .inl (cZ, 24, .inl (cqB g.z.2.2.1 (6 * k) o.z.2.2.1 (6 * d) 0))), (r 33, .inl (cJ, 24, .inr (.inl (cqL g.z.2.2.2 (6 * k) o.z.2.2.2 (6 * d) 0)))), (r 34, .inl (cI, 24, .inl o.oI)), (r 35, .inl (cZ, 4, .inl o.oA)), (r 36, .inl (cJ, 4, .inr (.inl o.oW))), (r 37, .inl (cI, 16, .inl o.oT)), (r 38, .inl (cI, 16, .inl o.oS)), (r 39, .inl (cJ, 24, .inr (.inl o.z.1))), (r 40, .inl (cI, 24, .inl o.z.2.1)), (r 41, .inl (cZ, 24, .inl o.z.2.2.1)), (r 42, .inl (cJ, 24, .inr (.inl o.z.2.2.2)))] H := hP
        have hD : va_D A [(h, .inr (13, mO r th si le lv pg pn pl rs)), (r 20, .inl (cI, 4, .inl ((asB g o k d).nu))), (r 21, .inl (cI, 4, .inl ((asB g o k d).pi))), (r 22, .inl (cI, 4, .inl ((asB g o k d).vs))), (r 23, .inl (cI, 4, .inl ((asB g o k d).cp))), (r 24, .inl (cI, 4, .inl ((asB g o k d).sc))), (r 25, .inl (cZ, 4, .inl ((asB g o k d).aw))), (r 26, .inl (cJ, 4, .inr (.inl ((asB g o k d).nw)))), (r 27, .inl (cI, 4, .inl ((asB g o k d).wt))), (r 28, .inl (cI, 16, .inl (upd (cqA g.ty (4 * k) o.oT (4 * d) j) (4 * k + j) (o.oT (4 * d + j))))), (r 29, .inl (cI, 16, .inl (upd (cqA g.sp (4 * k) o.oS (4 * d) j) (4 * k + j) (o.oS (4 * d + j))))), (r 30, .inl (cJ, 24, .inr (.inl (cqL g.z.1 (6 * k) o.z.1 (6 * d) 0)))), (r 31, .inl (cI, 24, .inl (cqA g.z.2.1 (6 * k) o.z.2.1 (6 * d) 0))), (r 32, .inl (cZ, 24, .inl (cqB g.z.2.2.1 (6 * k) o.z.2.2.1 (6 * d) 0))), (r 33, .inl (cJ, 24, .inr (.inl (cqL g.z.2.2.2 (6 * k) o.z.2.2.2 (6 * d) 0)))), (r 34, .inl (cI, 24, .inl o.oI)), (r 35, .inl (cZ, 4, .inl o.oA)), (r 36, .inl (cJ, 4, .inr (.inl o.oW))), (r 37, .inl (cI, 16, .inl o.oT)), (r 38, .inl (cI, 16, .inl o.oS)), (r 39, .inl (cJ, 24, .inr (.inl o.z.1))), (r 40, .inl (cI, 24, .inl o.z.2.1)), (r 41, .inl (cZ, 24, .inl o.z.2.2.1)), (r 42, .inl (cJ, 24, .inr (.inl o.z.2.2.2)))] := hD
        refine lv_iinc (k := 3) (v := nI (j + 1)) (lv' := [(3, .int (nI (j + 1))), (0, .ref h), (1, .int (nI k)), (2, .int (nI d))]) hx hb d_Mo_asBefore_139 hl rfl (nI_1 j) (by decide) rfl (fun ls hl => ?_)
        refine lv_goto (tgt := 94) hx hb d_Mo_asBefore_142 rfl ?_
        exact ih94 (j + 1) H locs ls (by omega) (by omega) (lv_sub hl [1, 2, 3, 0] rfl) hP hD hS
  exact loop94 _ 0 H locs ls (Nat.lt_succ_self _) (Nat.zero_le _) (lv_sub hl [1, 2, 3, 0] rfl) hP hD hS
