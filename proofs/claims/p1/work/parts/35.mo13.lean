theorem d_Mo_plan0_0 : decode b_Mo_plan0 0 = .ok (.aload_n 0, 1) := by decide +kernel
theorem d_Mo_plan0_1 : decode b_Mo_plan0 1 = .ok (.getfield 51, 3) := by decide +kernel
theorem d_Mo_plan0_4 : decode b_Mo_plan0 4 = .ok (.iconst 3, 1) := by decide +kernel
theorem d_Mo_plan0_5 : decode b_Mo_plan0 5 = .ok (.iaload, 1) := by decide +kernel
theorem d_Mo_plan0_6 : decode b_Mo_plan0 6 = .ok (.bipush 8, 2) := by decide +kernel
theorem d_Mo_plan0_8 : decode b_Mo_plan0 8 = .ok (.ishl, 1) := by decide +kernel
theorem d_Mo_plan0_9 : decode b_Mo_plan0 9 = .ok (.aload_n 0, 1) := by decide +kernel
theorem d_Mo_plan0_10 : decode b_Mo_plan0 10 = .ok (.getfield 51, 3) := by decide +kernel
theorem d_Mo_plan0_13 : decode b_Mo_plan0 13 = .ok (.iconst 4, 1) := by decide +kernel
theorem d_Mo_plan0_14 : decode b_Mo_plan0 14 = .ok (.iaload, 1) := by decide +kernel
theorem d_Mo_plan0_15 : decode b_Mo_plan0 15 = .ok (.ior, 1) := by decide +kernel
theorem d_Mo_plan0_16 : decode b_Mo_plan0 16 = .ok (.istore_n 2, 1) := by decide +kernel
theorem d_Mo_plan0_17 : decode b_Mo_plan0 17 = .ok (.aload_n 0, 1) := by decide +kernel
theorem d_Mo_plan0_18 : decode b_Mo_plan0 18 = .ok (.getfield 51, 3) := by decide +kernel
theorem d_Mo_plan0_21 : decode b_Mo_plan0 21 = .ok (.iconst 5, 1) := by decide +kernel
theorem d_Mo_plan0_22 : decode b_Mo_plan0 22 = .ok (.iaload, 1) := by decide +kernel
theorem d_Mo_plan0_23 : decode b_Mo_plan0 23 = .ok (.iconst 1, 1) := by decide +kernel
theorem d_Mo_plan0_24 : decode b_Mo_plan0 24 = .ok (.ishr, 1) := by decide +kernel
theorem d_Mo_plan0_25 : decode b_Mo_plan0 25 = .ok (.bipush 31, 2) := by decide +kernel
theorem d_Mo_plan0_27 : decode b_Mo_plan0 27 = .ok (.iand, 1) := by decide +kernel
theorem d_Mo_plan0_28 : decode b_Mo_plan0 28 = .ok (.istore_n 3, 1) := by decide +kernel
theorem d_Mo_plan0_29 : decode b_Mo_plan0 29 = .ok (.iconst 0, 1) := by decide +kernel
theorem d_Mo_plan0_30 : decode b_Mo_plan0 30 = .ok (.istore 4, 2) := by decide +kernel
theorem d_Mo_plan0_32 : decode b_Mo_plan0 32 = .ok (.iload 4, 2) := by decide +kernel
theorem d_Mo_plan0_34 : decode b_Mo_plan0 34 = .ok (.aload_n 0, 1) := by decide +kernel
theorem d_Mo_plan0_35 : decode b_Mo_plan0 35 = .ok (.getfield 181, 3) := by decide +kernel
theorem d_Mo_plan0_38 : decode b_Mo_plan0 38 = .ok (.if_icmp .ge 31, 3) := by decide +kernel
theorem d_Mo_plan0_41 : decode b_Mo_plan0 41 = .ok (.aload_n 0, 1) := by decide +kernel
theorem d_Mo_plan0_42 : decode b_Mo_plan0 42 = .ok (.getfield 61, 3) := by decide +kernel
theorem d_Mo_plan0_45 : decode b_Mo_plan0 45 = .ok (.iload 4, 2) := by decide +kernel
theorem d_Mo_plan0_47 : decode b_Mo_plan0 47 = .ok (.iaload, 1) := by decide +kernel
theorem d_Mo_plan0_48 : decode b_Mo_plan0 48 = .ok (.iload_n 2, 1) := by decide +kernel
theorem d_Mo_plan0_49 : decode b_Mo_plan0 49 = .ok (.if_icmp .ne 14, 3) := by decide +kernel
theorem d_Mo_plan0_52 : decode b_Mo_plan0 52 = .ok (.aload_n 0, 1) := by decide +kernel
theorem d_Mo_plan0_53 : decode b_Mo_plan0 53 = .ok (.getfield 64, 3) := by decide +kernel
theorem d_Mo_plan0_56 : decode b_Mo_plan0 56 = .ok (.iload 4, 2) := by decide +kernel
theorem d_Mo_plan0_58 : decode b_Mo_plan0 58 = .ok (.iaload, 1) := by decide +kernel
theorem d_Mo_plan0_59 : decode b_Mo_plan0 59 = .ok (.iload_n 1, 1) := by decide +kernel
theorem d_Mo_plan0_60 : decode b_Mo_plan0 60 = .ok (.if_icmp .eq 9, 3) := by decide +kernel
theorem d_Mo_plan0_63 : decode b_Mo_plan0 63 = .ok (.iinc 4 1, 3) := by decide +kernel
theorem d_Mo_plan0_66 : decode b_Mo_plan0 66 = .ok (.goto (-34), 3) := by decide +kernel
theorem d_Mo_plan0_69 : decode b_Mo_plan0 69 = .ok (.iload 4, 2) := by decide +kernel
theorem d_Mo_plan0_71 : decode b_Mo_plan0 71 = .ok (.aload_n 0, 1) := by decide +kernel
theorem d_Mo_plan0_72 : decode b_Mo_plan0 72 = .ok (.getfield 181, 3) := by decide +kernel
theorem d_Mo_plan0_75 : decode b_Mo_plan0 75 = .ok (.if_icmp .eq 23, 3) := by decide +kernel
theorem d_Mo_plan0_78 : decode b_Mo_plan0 78 = .ok (.aload_n 0, 1) := by decide +kernel
theorem d_Mo_plan0_79 : decode b_Mo_plan0 79 = .ok (.getfield 67, 3) := by decide +kernel
theorem d_Mo_plan0_82 : decode b_Mo_plan0 82 = .ok (.iload 4, 2) := by decide +kernel
theorem d_Mo_plan0_84 : decode b_Mo_plan0 84 = .ok (.iaload, 1) := by decide +kernel
theorem d_Mo_plan0_85 : decode b_Mo_plan0 85 = .ok (.iload_n 3, 1) := by decide +kernel
theorem d_Mo_plan0_86 : decode b_Mo_plan0 86 = .ok (.if_icmp .eq 12, 3) := by decide +kernel
theorem d_Mo_plan0_89 : decode b_Mo_plan0 89 = .ok (.aload_n 0, 1) := by decide +kernel
theorem d_Mo_plan0_90 : decode b_Mo_plan0 90 = .ok (.getfield 205, 3) := by decide +kernel
theorem d_Mo_plan0_93 : decode b_Mo_plan0 93 = .ok (.bipush 12, 2) := by decide +kernel
theorem d_Mo_plan0_95 : decode b_Mo_plan0 95 = .ok (.if_icmp .ge 4, 3) := by decide +kernel
theorem d_Mo_plan0_98 : decode b_Mo_plan0 98 = .ok (.return_, 1) := by decide +kernel
theorem d_Mo_plan0_99 : decode b_Mo_plan0 99 = .ok (.bipush 12, 2) := by decide +kernel
theorem d_Mo_plan0_101 : decode b_Mo_plan0 101 = .ok (.aload_n 0, 1) := by decide +kernel
theorem d_Mo_plan0_102 : decode b_Mo_plan0 102 = .ok (.getfield 51, 3) := by decide +kernel
theorem d_Mo_plan0_105 : decode b_Mo_plan0 105 = .ok (.bipush 10, 2) := by decide +kernel
theorem d_Mo_plan0_107 : decode b_Mo_plan0 107 = .ok (.iaload, 1) := by decide +kernel
theorem d_Mo_plan0_108 : decode b_Mo_plan0 108 = .ok (.bipush 15, 2) := by decide +kernel
theorem d_Mo_plan0_110 : decode b_Mo_plan0 110 = .ok (.iand, 1) := by decide +kernel
theorem d_Mo_plan0_111 : decode b_Mo_plan0 111 = .ok (.bipush 8, 2) := by decide +kernel
theorem d_Mo_plan0_113 : decode b_Mo_plan0 113 = .ok (.ishl, 1) := by decide +kernel
theorem d_Mo_plan0_114 : decode b_Mo_plan0 114 = .ok (.aload_n 0, 1) := by decide +kernel
theorem d_Mo_plan0_115 : decode b_Mo_plan0 115 = .ok (.getfield 51, 3) := by decide +kernel
theorem d_Mo_plan0_118 : decode b_Mo_plan0 118 = .ok (.bipush 11, 2) := by decide +kernel
theorem d_Mo_plan0_120 : decode b_Mo_plan0 120 = .ok (.iaload, 1) := by decide +kernel
theorem d_Mo_plan0_121 : decode b_Mo_plan0 121 = .ok (.ior, 1) := by decide +kernel
theorem d_Mo_plan0_122 : decode b_Mo_plan0 122 = .ok (.iadd, 1) := by decide +kernel
theorem d_Mo_plan0_123 : decode b_Mo_plan0 123 = .ok (.istore 5, 2) := by decide +kernel
theorem d_Mo_plan0_125 : decode b_Mo_plan0 125 = .ok (.iload 5, 2) := by decide +kernel
theorem d_Mo_plan0_127 : decode b_Mo_plan0 127 = .ok (.istore 6, 2) := by decide +kernel
theorem d_Mo_plan0_129 : decode b_Mo_plan0 129 = .ok (.iconst 0, 1) := by decide +kernel
theorem d_Mo_plan0_130 : decode b_Mo_plan0 130 = .ok (.istore 7, 2) := by decide +kernel
theorem d_Mo_plan0_132 : decode b_Mo_plan0 132 = .ok (.iload 6, 2) := by decide +kernel
theorem d_Mo_plan0_134 : decode b_Mo_plan0 134 = .ok (.iconst 5, 1) := by decide +kernel
theorem d_Mo_plan0_135 : decode b_Mo_plan0 135 = .ok (.iadd, 1) := by decide +kernel
theorem d_Mo_plan0_136 : decode b_Mo_plan0 136 = .ok (.aload_n 0, 1) := by decide +kernel
theorem d_Mo_plan0_137 : decode b_Mo_plan0 137 = .ok (.getfield 205, 3) := by decide +kernel
theorem d_Mo_plan0_140 : decode b_Mo_plan0 140 = .ok (.if_icmp .gt 41, 3) := by decide +kernel
theorem d_Mo_plan0_143 : decode b_Mo_plan0 143 = .ok (.iload 6, 2) := by decide +kernel
theorem d_Mo_plan0_145 : decode b_Mo_plan0 145 = .ok (.iconst 5, 1) := by decide +kernel
theorem d_Mo_plan0_146 : decode b_Mo_plan0 146 = .ok (.iadd, 1) := by decide +kernel
theorem d_Mo_plan0_147 : decode b_Mo_plan0 147 = .ok (.aload_n 0, 1) := by decide +kernel
theorem d_Mo_plan0_148 : decode b_Mo_plan0 148 = .ok (.getfield 51, 3) := by decide +kernel
theorem d_Mo_plan0_151 : decode b_Mo_plan0 151 = .ok (.iload 6, 2) := by decide +kernel
theorem d_Mo_plan0_153 : decode b_Mo_plan0 153 = .ok (.iconst 3, 1) := by decide +kernel
theorem d_Mo_plan0_154 : decode b_Mo_plan0 154 = .ok (.iadd, 1) := by decide +kernel
theorem d_Mo_plan0_155 : decode b_Mo_plan0 155 = .ok (.iaload, 1) := by decide +kernel
theorem d_Mo_plan0_156 : decode b_Mo_plan0 156 = .ok (.bipush 15, 2) := by decide +kernel
theorem d_Mo_plan0_158 : decode b_Mo_plan0 158 = .ok (.iand, 1) := by decide +kernel
theorem d_Mo_plan0_159 : decode b_Mo_plan0 159 = .ok (.bipush 8, 2) := by decide +kernel
theorem d_Mo_plan0_161 : decode b_Mo_plan0 161 = .ok (.ishl, 1) := by decide +kernel
theorem d_Mo_plan0_162 : decode b_Mo_plan0 162 = .ok (.aload_n 0, 1) := by decide +kernel
theorem d_Mo_plan0_163 : decode b_Mo_plan0 163 = .ok (.getfield 51, 3) := by decide +kernel
theorem d_Mo_plan0_166 : decode b_Mo_plan0 166 = .ok (.iload 6, 2) := by decide +kernel
theorem d_Mo_plan0_168 : decode b_Mo_plan0 168 = .ok (.iconst 4, 1) := by decide +kernel
theorem d_Mo_plan0_169 : decode b_Mo_plan0 169 = .ok (.iadd, 1) := by decide +kernel
theorem d_Mo_plan0_170 : decode b_Mo_plan0 170 = .ok (.iaload, 1) := by decide +kernel
theorem d_Mo_plan0_171 : decode b_Mo_plan0 171 = .ok (.ior, 1) := by decide +kernel
theorem d_Mo_plan0_172 : decode b_Mo_plan0 172 = .ok (.iadd, 1) := by decide +kernel
theorem d_Mo_plan0_173 : decode b_Mo_plan0 173 = .ok (.istore 6, 2) := by decide +kernel
theorem d_Mo_plan0_175 : decode b_Mo_plan0 175 = .ok (.iinc 7 1, 3) := by decide +kernel
theorem d_Mo_plan0_178 : decode b_Mo_plan0 178 = .ok (.goto (-46), 3) := by decide +kernel
theorem d_Mo_plan0_181 : decode b_Mo_plan0 181 = .ok (.iload 6, 2) := by decide +kernel
theorem d_Mo_plan0_183 : decode b_Mo_plan0 183 = .ok (.aload_n 0, 1) := by decide +kernel
theorem d_Mo_plan0_184 : decode b_Mo_plan0 184 = .ok (.getfield 205, 3) := by decide +kernel
theorem d_Mo_plan0_187 : decode b_Mo_plan0 187 = .ok (.if_icmp .ne 9, 3) := by decide +kernel
theorem d_Mo_plan0_190 : decode b_Mo_plan0 190 = .ok (.iload 7, 2) := by decide +kernel
theorem d_Mo_plan0_192 : decode b_Mo_plan0 192 = .ok (.iconst 4, 1) := by decide +kernel
theorem d_Mo_plan0_193 : decode b_Mo_plan0 193 = .ok (.if_icmp .le 4, 3) := by decide +kernel
theorem d_Mo_plan0_196 : decode b_Mo_plan0 196 = .ok (.return_, 1) := by decide +kernel
theorem d_Mo_plan0_197 : decode b_Mo_plan0 197 = .ok (.aload_n 0, 1) := by decide +kernel
theorem d_Mo_plan0_198 : decode b_Mo_plan0 198 = .ok (.getfield 67, 3) := by decide +kernel
theorem d_Mo_plan0_201 : decode b_Mo_plan0 201 = .ok (.iload 4, 2) := by decide +kernel
theorem d_Mo_plan0_203 : decode b_Mo_plan0 203 = .ok (.iload_n 3, 1) := by decide +kernel
theorem d_Mo_plan0_204 : decode b_Mo_plan0 204 = .ok (.iastore, 1) := by decide +kernel
theorem d_Mo_plan0_205 : decode b_Mo_plan0 205 = .ok (.aload_n 0, 1) := by decide +kernel
theorem d_Mo_plan0_206 : decode b_Mo_plan0 206 = .ok (.getfield 70, 3) := by decide +kernel
theorem d_Mo_plan0_209 : decode b_Mo_plan0 209 = .ok (.iload 4, 2) := by decide +kernel
theorem d_Mo_plan0_211 : decode b_Mo_plan0 211 = .ok (.aload_n 0, 1) := by decide +kernel
theorem d_Mo_plan0_212 : decode b_Mo_plan0 212 = .ok (.getfield 51, 3) := by decide +kernel
theorem d_Mo_plan0_215 : decode b_Mo_plan0 215 = .ok (.bipush 8, 2) := by decide +kernel
theorem d_Mo_plan0_217 : decode b_Mo_plan0 217 = .ok (.iaload, 1) := by decide +kernel
theorem d_Mo_plan0_218 : decode b_Mo_plan0 218 = .ok (.bipush 31, 2) := by decide +kernel
theorem d_Mo_plan0_220 : decode b_Mo_plan0 220 = .ok (.iand, 1) := by decide +kernel
theorem d_Mo_plan0_221 : decode b_Mo_plan0 221 = .ok (.bipush 8, 2) := by decide +kernel
theorem d_Mo_plan0_223 : decode b_Mo_plan0 223 = .ok (.ishl, 1) := by decide +kernel
theorem d_Mo_plan0_224 : decode b_Mo_plan0 224 = .ok (.aload_n 0, 1) := by decide +kernel
theorem d_Mo_plan0_225 : decode b_Mo_plan0 225 = .ok (.getfield 51, 3) := by decide +kernel
theorem d_Mo_plan0_228 : decode b_Mo_plan0 228 = .ok (.bipush 9, 2) := by decide +kernel
theorem d_Mo_plan0_230 : decode b_Mo_plan0 230 = .ok (.iaload, 1) := by decide +kernel
theorem d_Mo_plan0_231 : decode b_Mo_plan0 231 = .ok (.ior, 1) := by decide +kernel
theorem d_Mo_plan0_232 : decode b_Mo_plan0 232 = .ok (.iastore, 1) := by decide +kernel
theorem d_Mo_plan0_233 : decode b_Mo_plan0 233 = .ok (.aload_n 0, 1) := by decide +kernel
theorem d_Mo_plan0_234 : decode b_Mo_plan0 234 = .ok (.getfield 73, 3) := by decide +kernel
theorem d_Mo_plan0_237 : decode b_Mo_plan0 237 = .ok (.iload 4, 2) := by decide +kernel
theorem d_Mo_plan0_239 : decode b_Mo_plan0 239 = .ok (.iload 7, 2) := by decide +kernel
theorem d_Mo_plan0_241 : decode b_Mo_plan0 241 = .ok (.iastore, 1) := by decide +kernel
theorem d_Mo_plan0_242 : decode b_Mo_plan0 242 = .ok (.iload 5, 2) := by decide +kernel
theorem d_Mo_plan0_244 : decode b_Mo_plan0 244 = .ok (.istore 6, 2) := by decide +kernel
theorem d_Mo_plan0_246 : decode b_Mo_plan0 246 = .ok (.iconst 0, 1) := by decide +kernel
theorem d_Mo_plan0_247 : decode b_Mo_plan0 247 = .ok (.istore 8, 2) := by decide +kernel
theorem d_Mo_plan0_249 : decode b_Mo_plan0 249 = .ok (.iload 8, 2) := by decide +kernel
theorem d_Mo_plan0_251 : decode b_Mo_plan0 251 = .ok (.iload 7, 2) := by decide +kernel
theorem d_Mo_plan0_253 : decode b_Mo_plan0 253 = .ok (.if_icmp .ge 97, 3) := by decide +kernel
theorem d_Mo_plan0_256 : decode b_Mo_plan0 256 = .ok (.aload_n 0, 1) := by decide +kernel
theorem d_Mo_plan0_257 : decode b_Mo_plan0 257 = .ok (.getfield 85, 3) := by decide +kernel
theorem d_Mo_plan0_260 : decode b_Mo_plan0 260 = .ok (.iconst 4, 1) := by decide +kernel
theorem d_Mo_plan0_261 : decode b_Mo_plan0 261 = .ok (.iload 4, 2) := by decide +kernel
theorem d_Mo_plan0_263 : decode b_Mo_plan0 263 = .ok (.imul, 1) := by decide +kernel
theorem d_Mo_plan0_264 : decode b_Mo_plan0 264 = .ok (.iload 8, 2) := by decide +kernel
theorem d_Mo_plan0_266 : decode b_Mo_plan0 266 = .ok (.iadd, 1) := by decide +kernel
theorem d_Mo_plan0_267 : decode b_Mo_plan0 267 = .ok (.aload_n 0, 1) := by decide +kernel
theorem d_Mo_plan0_268 : decode b_Mo_plan0 268 = .ok (.getfield 51, 3) := by decide +kernel
theorem d_Mo_plan0_271 : decode b_Mo_plan0 271 = .ok (.iload 6, 2) := by decide +kernel
theorem d_Mo_plan0_273 : decode b_Mo_plan0 273 = .ok (.iaload, 1) := by decide +kernel
theorem d_Mo_plan0_274 : decode b_Mo_plan0 274 = .ok (.iastore, 1) := by decide +kernel
theorem d_Mo_plan0_275 : decode b_Mo_plan0 275 = .ok (.aload_n 0, 1) := by decide +kernel
theorem d_Mo_plan0_276 : decode b_Mo_plan0 276 = .ok (.getfield 88, 3) := by decide +kernel
theorem d_Mo_plan0_279 : decode b_Mo_plan0 279 = .ok (.iconst 4, 1) := by decide +kernel
theorem d_Mo_plan0_280 : decode b_Mo_plan0 280 = .ok (.iload 4, 2) := by decide +kernel
theorem d_Mo_plan0_282 : decode b_Mo_plan0 282 = .ok (.imul, 1) := by decide +kernel
theorem d_Mo_plan0_283 : decode b_Mo_plan0 283 = .ok (.iload 8, 2) := by decide +kernel
theorem d_Mo_plan0_285 : decode b_Mo_plan0 285 = .ok (.iadd, 1) := by decide +kernel
theorem d_Mo_plan0_286 : decode b_Mo_plan0 286 = .ok (.aload_n 0, 1) := by decide +kernel
theorem d_Mo_plan0_287 : decode b_Mo_plan0 287 = .ok (.getfield 51, 3) := by decide +kernel
theorem d_Mo_plan0_290 : decode b_Mo_plan0 290 = .ok (.iload 6, 2) := by decide +kernel
theorem d_Mo_plan0_292 : decode b_Mo_plan0 292 = .ok (.iconst 1, 1) := by decide +kernel
theorem d_Mo_plan0_293 : decode b_Mo_plan0 293 = .ok (.iadd, 1) := by decide +kernel
theorem d_Mo_plan0_294 : decode b_Mo_plan0 294 = .ok (.iaload, 1) := by decide +kernel
theorem d_Mo_plan0_295 : decode b_Mo_plan0 295 = .ok (.bipush 31, 2) := by decide +kernel
theorem d_Mo_plan0_297 : decode b_Mo_plan0 297 = .ok (.iand, 1) := by decide +kernel
theorem d_Mo_plan0_298 : decode b_Mo_plan0 298 = .ok (.bipush 8, 2) := by decide +kernel
theorem d_Mo_plan0_300 : decode b_Mo_plan0 300 = .ok (.ishl, 1) := by decide +kernel
theorem d_Mo_plan0_301 : decode b_Mo_plan0 301 = .ok (.aload_n 0, 1) := by decide +kernel
theorem d_Mo_plan0_302 : decode b_Mo_plan0 302 = .ok (.getfield 51, 3) := by decide +kernel
theorem d_Mo_plan0_305 : decode b_Mo_plan0 305 = .ok (.iload 6, 2) := by decide +kernel
theorem d_Mo_plan0_307 : decode b_Mo_plan0 307 = .ok (.iconst 2, 1) := by decide +kernel
theorem d_Mo_plan0_308 : decode b_Mo_plan0 308 = .ok (.iadd, 1) := by decide +kernel
theorem d_Mo_plan0_309 : decode b_Mo_plan0 309 = .ok (.iaload, 1) := by decide +kernel
theorem d_Mo_plan0_310 : decode b_Mo_plan0 310 = .ok (.ior, 1) := by decide +kernel
theorem d_Mo_plan0_311 : decode b_Mo_plan0 311 = .ok (.iastore, 1) := by decide +kernel
theorem d_Mo_plan0_312 : decode b_Mo_plan0 312 = .ok (.iload 6, 2) := by decide +kernel
theorem d_Mo_plan0_314 : decode b_Mo_plan0 314 = .ok (.iconst 5, 1) := by decide +kernel
theorem d_Mo_plan0_315 : decode b_Mo_plan0 315 = .ok (.iadd, 1) := by decide +kernel
theorem d_Mo_plan0_316 : decode b_Mo_plan0 316 = .ok (.aload_n 0, 1) := by decide +kernel
theorem d_Mo_plan0_317 : decode b_Mo_plan0 317 = .ok (.getfield 51, 3) := by decide +kernel
theorem d_Mo_plan0_320 : decode b_Mo_plan0 320 = .ok (.iload 6, 2) := by decide +kernel
theorem d_Mo_plan0_322 : decode b_Mo_plan0 322 = .ok (.iconst 3, 1) := by decide +kernel
theorem d_Mo_plan0_323 : decode b_Mo_plan0 323 = .ok (.iadd, 1) := by decide +kernel
theorem d_Mo_plan0_324 : decode b_Mo_plan0 324 = .ok (.iaload, 1) := by decide +kernel
theorem d_Mo_plan0_325 : decode b_Mo_plan0 325 = .ok (.bipush 15, 2) := by decide +kernel
theorem d_Mo_plan0_327 : decode b_Mo_plan0 327 = .ok (.iand, 1) := by decide +kernel
theorem d_Mo_plan0_328 : decode b_Mo_plan0 328 = .ok (.bipush 8, 2) := by decide +kernel
theorem d_Mo_plan0_330 : decode b_Mo_plan0 330 = .ok (.ishl, 1) := by decide +kernel
theorem d_Mo_plan0_331 : decode b_Mo_plan0 331 = .ok (.aload_n 0, 1) := by decide +kernel
theorem d_Mo_plan0_332 : decode b_Mo_plan0 332 = .ok (.getfield 51, 3) := by decide +kernel
theorem d_Mo_plan0_335 : decode b_Mo_plan0 335 = .ok (.iload 6, 2) := by decide +kernel
theorem d_Mo_plan0_337 : decode b_Mo_plan0 337 = .ok (.iconst 4, 1) := by decide +kernel
theorem d_Mo_plan0_338 : decode b_Mo_plan0 338 = .ok (.iadd, 1) := by decide +kernel
theorem d_Mo_plan0_339 : decode b_Mo_plan0 339 = .ok (.iaload, 1) := by decide +kernel
theorem d_Mo_plan0_340 : decode b_Mo_plan0 340 = .ok (.ior, 1) := by decide +kernel
theorem d_Mo_plan0_341 : decode b_Mo_plan0 341 = .ok (.iadd, 1) := by decide +kernel
theorem d_Mo_plan0_342 : decode b_Mo_plan0 342 = .ok (.istore 6, 2) := by decide +kernel
theorem d_Mo_plan0_344 : decode b_Mo_plan0 344 = .ok (.iinc 8 1, 3) := by decide +kernel
theorem d_Mo_plan0_347 : decode b_Mo_plan0 347 = .ok (.goto (-98), 3) := by decide +kernel
theorem d_Mo_plan0_350 : decode b_Mo_plan0 350 = .ok (.aload_n 0, 1) := by decide +kernel
theorem d_Mo_plan0_351 : decode b_Mo_plan0 351 = .ok (.iload_n 1, 1) := by decide +kernel
theorem d_Mo_plan0_352 : decode b_Mo_plan0 352 = .ok (.invokevirtual 234, 3) := by decide +kernel
theorem d_Mo_plan0_355 : decode b_Mo_plan0 355 = .ok (.return_, 1) := by decide +kernel
/-! The reference takes a plan in force -/
theorem nI_bv (a : Nat) : (nI a).toBitVec = BitVec.ofNat 32 a := rfl
theorem pl_sh8 : ((8 : Int32) &&& 31).toBitVec.smod 32 = BitVec.ofNat 32 8 := by decide
theorem pl_or0 {a b : Nat} (ha : a < 256) (hb : b < 256) : (nI a <<< ((8 : Int32) &&& 31)) ||| nI b = nI (a * 256 + b) := by
  apply Int32.toBitVec_inj.mp
  rw [Int32.toBitVec_or, Int32.toBitVec_shiftLeft, pl_sh8, nI_bv, nI_bv, nI_bv]
  apply BitVec.eq_of_toNat_eq
  simp only [BitVec.toNat_or, BitVec.shiftLeft_eq', BitVec.toNat_shiftLeft, BitVec.toNat_ofNat]
  have h8 : 8 % 2 ^ 32 = 8 := by decide
  rw [h8, Nat.mod_eq_of_lt (show a < 2 ^ 32 by omega), Nat.mod_eq_of_lt (show b < 2 ^ 32 by omega), Nat.mod_eq_of_lt (show a * 256 + b < 2 ^ 32 by omega)]
  have e : a <<< 8 = a * 256 := by rw [Nat.shiftLeft_eq]
  rw [Nat.mod_eq_of_lt (show a <<< 8 < 2 ^ 32 by rw [e]; omega), ← Nat.shiftLeft_add_eq_or_of_lt (show b < 2 ^ 8 by omega), e]
theorem pl_or {a b : Nat} (ha : a < 256) (hb : b < 256) : ((nI a &&& 15) <<< ((8 : Int32) &&& 31)) ||| nI b = nI (a % 16 * 256 + b) := by
  rw [wr_15 (by omega)]
  exact pl_or0 (by omega) hb
def plN (sb : Nat → Nat) (a : Nat) : Nat := a + 5 + (sb (a + 3) % 16 * 256 + sb (a + 4))
def plA (sb : Nat → Nat) : Nat → Nat
  | 0 => 12 + (sb 10 % 16 * 256 + sb 11)
  | j + 1 => plN sb (plA sb j)
def piW (se : Nat → Int32) (i : Nat) : Int32 := ((se (i + 1) &&& 31) <<< ((8 : Int32) &&& 31)) ||| se (i + 2)
def plT (se : Nat → Int32) (sb : Nat → Nat) (k : Nat) (f : Nat → Int32) : Nat → Nat → Int32
  | 0 => f
  | j + 1 => upd (plT se sb k f j) (4 * k + j) (se (plA sb j))
def plS (se : Nat → Int32) (sb : Nat → Nat) (k : Nat) (f : Nat → Int32) : Nat → Nat → Int32
  | 0 => f
  | j + 1 => upd (plS se sb k f j) (4 * k + j) (piW se (plA sb j))
def plX (g : PG) (se : Nat → Int32) (sb : Nat → Nat) (k n j : Nat) : PG := ⟨g.nu, g.pi, upd g.vs k (vsV se), upd g.cp k (piV se 6), upd g.sc k (nI n), g.aw, g.nw, g.wt, plT se sb k g.ty j, plS se sb k g.sp j, g.z⟩
def plC (g : PG) (ng : Nat) (se : Nat → Int32) (sb : Nat → Nat) (ln : Nat) (v : Int32) (k n : Nat) : Prop :=
  (k < ng ∧ (g.nu k = nuV se 3 ∧ g.pi k = v) ∧ ∀ x, x < k → ¬ (g.nu x = nuV se 3 ∧ g.pi x = v)) ∧ ¬ g.vs k = vsV se ∧ 12 ≤ ln ∧ plA sb n = ln ∧ n ≤ 4 ∧ ∀ x, x < n → plA sb x + 5 ≤ ln
theorem pl_k {g : PG} {ng ln k k9 n9 : Nat} {se : Nat → Int32} {sb : Nat → Nat} {v : Int32} (h : plC g ng se sb ln v k9 n9) (hm : g.nu k = nuV se 3 ∧ g.pi k = v) (hn : ∀ x, x < k → ¬ (g.nu x = nuV se 3 ∧ g.pi x = v)) : k9 = k := by
  rcases Nat.lt_trichotomy k9 k with c | c | c
  · exact absurd h.1.2.1 (hn k9 c)
  · exact c
  · exact absurd hm (h.1.2.2 k c)
theorem pl_n {g : PG} {ng ln k9 n9 n : Nat} {se : Nat → Int32} {sb : Nat → Nat} {v : Int32} (h : plC g ng se sb ln v k9 n9) (he : ln < plA sb n + 5) (hn : ∀ x, x < n → plA sb x + 5 ≤ ln) : n9 = n := by
  rcases Nat.lt_trichotomy n9 n with c | c | c
  · have := hn n9 c
    have := h.2.2.2.1
    omega
  · exact c
  · have := h.2.2.2.2.2 n c
    omega

set_option maxHeartbeats 4000000 in
set_option maxRecDepth 100000 in
theorem c_Mo_plan0 (l : Launch) (D : va_G) (sz : Nat) (cI : ClassId) (h : Nat) (r : Nat → Nat) (th si lv pn pl rs : Int32) (cJ cZ : ClassId) (ng : Nat) (g : PG) (tl sP se : Nat → Int32) (sb : Nat → Nat) (ln : Nat) (v : Int32) (hng : ng ≤ 4) (hln : ln ≤ 1024) (hse : ∀ x, x < 1024 → se x = nI (sb x) ∧ sb x < 256) : Met l y_Mo_plan0 [Cond.code y_Mo_plan0 b_Mo_plan0 9 none] ({ frames := 3, cells := 0, slots := 0, locals := 66 }) (zM [.ref h, .int v] D [(h, .inr (13, mO r th si (nI ln) lv (nI ng) pn pl rs)), (r 3, .inl (cI, 10, .inl tl)), (r 7, .inl (cI, 24, .inl sP)), (r 15, .inl (cI, 1024, .inl se)), (r 20, .inl (cI, 4, .inl g.nu)), (r 21, .inl (cI, 4, .inl g.pi)), (r 22, .inl (cI, 4, .inl g.vs)), (r 23, .inl (cI, 4, .inl g.cp)), (r 24, .inl (cI, 4, .inl g.sc)), (r 25, .inl (cZ, 4, .inl g.aw)), (r 26, .inl (cJ, 4, .inr (.inl g.nw))), (r 27, .inl (cI, 4, .inl g.wt)), (r 28, .inl (cI, 16, .inl g.ty)), (r 29, .inl (cI, 16, .inl g.sp)), (r 30, .inl (cJ, 24, .inr (.inl g.z.1))), (r 31, .inl (cI, 24, .inl g.z.2.1)), (r 32, .inl (cZ, 24, .inl g.z.2.2.1)), (r 33, .inl (cJ, 24, .inr (.inl g.z.2.2.2)))] [(cI, .int), (cJ, .long), (cZ, .boolean)] sz) (va_Qv (fun (u : PG × ((Nat → Int32) × (Nat → Int32))) => ((¬ ∃ k9 n9, plC g ng se sb ln v k9 n9) ∧ u = (g, (sP, tl))) ∨ (∃ k9 n9, plC g ng se sb ln v k9 n9 ∧ u = (plX g se sb k9 n9 n9, goU (sP, tl) v 24))) (fun (u : PG × ((Nat → Int32) × (Nat → Int32))) t => zW D (va_A [(h, .inr (13, mO r th si (nI ln) lv (nI ng) pn pl rs)), (r 3, .inl (cI, 10, .inl tl)), (r 7, .inl (cI, 24, .inl sP)), (r 15, .inl (cI, 1024, .inl se)), (r 20, .inl (cI, 4, .inl g.nu)), (r 21, .inl (cI, 4, .inl g.pi)), (r 22, .inl (cI, 4, .inl g.vs)), (r 23, .inl (cI, 4, .inl g.cp)), (r 24, .inl (cI, 4, .inl g.sc)), (r 25, .inl (cZ, 4, .inl g.aw)), (r 26, .inl (cJ, 4, .inr (.inl g.nw))), (r 27, .inl (cI, 4, .inl g.wt)), (r 28, .inl (cI, 16, .inl g.ty)), (r 29, .inl (cI, 16, .inl g.sp)), (r 30, .inl (cJ, 24, .inr (.inl g.z.1))), (r 31, .inl (cI, 24, .inl g.z.2.1)), (r 32, .inl (cZ, 24, .inl g.z.2.2.1)), (r 33, .inl (cJ, 24, .inr (.inl g.z.2.2.2)))] sz) [(h, .inr (13, mO r th si (nI ln) lv (nI ng) pn pl rs)), (r 3, .inl (cI, 10, .inl u.2.2)), (r 7, .inl (cI, 24, .inl u.2.1)), (r 15, .inl (cI, 1024, .inl se)), (r 20, .inl (cI, 4, .inl u.1.nu)), (r 21, .inl (cI, 4, .inl u.1.pi)), (r 22, .inl (cI, 4, .inl u.1.vs)), (r 23, .inl (cI, 4, .inl u.1.cp)), (r 24, .inl (cI, 4, .inl u.1.sc)), (r 25, .inl (cZ, 4, .inl u.1.aw)), (r 26, .inl (cJ, 4, .inr (.inl u.1.nw))), (r 27, .inl (cI, 4, .inl u.1.wt)), (r 28, .inl (cI, 16, .inl u.1.ty)), (r 29, .inl (cI, 16, .inl u.1.sp)), (r 30, .inl (cJ, 24, .inr (.inl u.1.z.1))), (r 31, .inl (cI, 24, .inl u.1.z.2.1)), (r 32, .inl (cZ, 24, .inl u.1.z.2.2.1)), (r 33, .inl (cJ, 24, .inr (.inl u.1.z.2.2.2)))] [(cI, .int), (cJ, .long), (cZ, .boolean)] t) (va_A [(h, .inr (13, mO r th si (nI ln) lv (nI ng) pn pl rs)), (r 3, .inl (cI, 10, .inl tl)), (r 7, .inl (cI, 24, .inl sP)), (r 15, .inl (cI, 1024, .inl se)), (r 20, .inl (cI, 4, .inl g.nu)), (r 21, .inl (cI, 4, .inl g.pi)), (r 22, .inl (cI, 4, .inl g.vs)), (r 23, .inl (cI, 4, .inl g.cp)), (r 24, .inl (cI, 4, .inl g.sc)), (r 25, .inl (cZ, 4, .inl g.aw)), (r 26, .inl (cJ, 4, .inr (.inl g.nw))), (r 27, .inl (cI, 4, .inl g.wt)), (r 28, .inl (cI, 16, .inl g.ty)), (r 29, .inl (cI, 16, .inl g.sp)), (r 30, .inl (cJ, 24, .inr (.inl g.z.1))), (r 31, .inl (cI, 24, .inl g.z.2.1)), (r 32, .inl (cZ, 24, .inl g.z.2.2.1)), (r 33, .inl (cJ, 24, .inr (.inl g.z.2.2.2)))] sz)) 0 0 (va_A [(h, .inr (13, mO r th si (nI ln) lv (nI ng) pn pl rs)), (r 3, .inl (cI, 10, .inl tl)), (r 7, .inl (cI, 24, .inl sP)), (r 15, .inl (cI, 1024, .inl se)), (r 20, .inl (cI, 4, .inl g.nu)), (r 21, .inl (cI, 4, .inl g.pi)), (r 22, .inl (cI, 4, .inl g.vs)), (r 23, .inl (cI, 4, .inl g.cp)), (r 24, .inl (cI, 4, .inl g.sc)), (r 25, .inl (cZ, 4, .inl g.aw)), (r 26, .inl (cJ, 4, .inr (.inl g.nw))), (r 27, .inl (cI, 4, .inl g.wt)), (r 28, .inl (cI, 16, .inl g.ty)), (r 29, .inl (cI, 16, .inl g.sp)), (r 30, .inl (cJ, 24, .inr (.inl g.z.1))), (r 31, .inl (cI, 24, .inl g.z.2.1)), (r 32, .inl (cZ, 24, .inl g.z.2.2.1)), (r 33, .inl (cJ, 24, .inr (.inl g.z.2.2.2)))] sz) := by
  refine Met.ofW (cc := b_Mo_plan0) (maxL := 9) (ret := none) (by decide) rfl ?_
  intro p e s m args below meth cd s₁ Bd hml hv
  obtain ⟨rfl, hsz, hP, hK, hN, hD0⟩ := hv
  have hx := Bd.exec
  have hb := Bd.bytes
  have hr := Bd.returns
  have hts := hN.use (a := ([.ref h, .int v]).toArray)
  have hown : s.vm.findClass R_Mo = some m.cls := findClass_of_methodNamed Bd.named
  have hlocks := Bd.notSynchronized
  subst hsz
  have hD := hD0.self (sz := s.heap.size)
  clear hD0
  have hA : ∀ q : Nat, s.heap.size ≤ q → va_A [(h, .inr (13, mO r th si (nI ln) lv (nI ng) pn pl rs)), (r 3, .inl (cI, 10, .inl tl)), (r 7, .inl (cI, 24, .inl sP)), (r 15, .inl (cI, 1024, .inl se)), (r 20, .inl (cI, 4, .inl g.nu)), (r 21, .inl (cI, 4, .inl g.pi)), (r 22, .inl (cI, 4, .inl g.vs)), (r 23, .inl (cI, 4, .inl g.cp)), (r 24, .inl (cI, 4, .inl g.sc)), (r 25, .inl (cZ, 4, .inl g.aw)), (r 26, .inl (cJ, 4, .inr (.inl g.nw))), (r 27, .inl (cI, 4, .inl g.wt)), (r 28, .inl (cI, 16, .inl g.ty)), (r 29, .inl (cI, 16, .inl g.sp)), (r 30, .inl (cJ, 24, .inr (.inl g.z.1))), (r 31, .inl (cI, 24, .inl g.z.2.1)), (r 32, .inl (cZ, 24, .inl g.z.2.2.1)), (r 33, .inl (cJ, 24, .inr (.inl g.z.2.2.2)))] s.heap.size q := fun q h => Or.inr h
  have hS : va_S (va_A [(h, .inr (13, mO r th si (nI ln) lv (nI ng) pn pl rs)), (r 3, .inl (cI, 10, .inl tl)), (r 7, .inl (cI, 24, .inl sP)), (r 15, .inl (cI, 1024, .inl se)), (r 20, .inl (cI, 4, .inl g.nu)), (r 21, .inl (cI, 4, .inl g.pi)), (r 22, .inl (cI, 4, .inl g.vs)), (r 23, .inl (cI, 4, .inl g.cp)), (r 24, .inl (cI, 4, .inl g.sc)), (r 25, .inl (cZ, 4, .inl g.aw)), (r 26, .inl (cJ, 4, .inr (.inl g.nw))), (r 27, .inl (cI, 4, .inl g.wt)), (r 28, .inl (cI, 16, .inl g.ty)), (r 29, .inl (cI, 16, .inl g.sp)), (r 30, .inl (cJ, 24, .inr (.inl g.z.1))), (r 31, .inl (cI, 24, .inl g.z.2.1)), (r 32, .inl (cZ, 24, .inl g.z.2.2.1)), (r 33, .inl (cJ, 24, .inr (.inl g.z.2.2.2)))] s.heap.size) s.heap s.heap [] := va_S.rf
  generalize hAe : va_A [(h, .inr (13, mO r th si (nI ln) lv (nI ng) pn pl rs)), (r 3, .inl (cI, 10, .inl tl)), (r 7, .inl (cI, 24, .inl sP)), (r 15, .inl (cI, 1024, .inl se)), (r 20, .inl (cI, 4, .inl g.nu)), (r 21, .inl (cI, 4, .inl g.pi)), (r 22, .inl (cI, 4, .inl g.vs)), (r 23, .inl (cI, 4, .inl g.cp)), (r 24, .inl (cI, 4, .inl g.sc)), (r 25, .inl (cZ, 4, .inl g.aw)), (r 26, .inl (cJ, 4, .inr (.inl g.nw))), (r 27, .inl (cI, 4, .inl g.wt)), (r 28, .inl (cI, 16, .inl g.ty)), (r 29, .inl (cI, 16, .inl g.sp)), (r 30, .inl (cJ, 24, .inr (.inl g.z.1))), (r 31, .inl (cI, 24, .inl g.z.2.1)), (r 32, .inl (cZ, 24, .inl g.z.2.2.1)), (r 33, .inl (cJ, 24, .inr (.inl g.z.2.2.2)))] s.heap.size = A at hD hA hS ⊢
  have hP : va_P D classes [(h, .inr (13, mO r th si (nI ln) lv (nI ng) pn pl rs)), (r 3, .inl (cI, 10, .inl tl)), (r 7, .inl (cI, 24, .inl sP)), (r 15, .inl (cI, 1024, .inl se)), (r 20, .inl (cI, 4, .inl g.nu)), (r 21, .inl (cI, 4, .inl g.pi)), (r 22, .inl (cI, 4, .inl g.vs)), (r 23, .inl (cI, 4, .inl g.cp)), (r 24, .inl (cI, 4, .inl g.sc)), (r 25, .inl (cZ, 4, .inl g.aw)), (r 26, .inl (cJ, 4, .inr (.inl g.nw))), (r 27, .inl (cI, 4, .inl g.wt)), (r 28, .inl (cI, 16, .inl g.ty)), (r 29, .inl (cI, 16, .inl g.sp)), (r 30, .inl (cJ, 24, .inr (.inl g.z.1))), (r 31, .inl (cI, 24, .inl g.z.2.1)), (r 32, .inl (cZ, 24, .inl g.z.2.2.1)), (r 33, .inl (cJ, 24, .inr (.inl g.z.2.2.2)))] s.heap := hP
  have hl := lv_entry ([.ref h, .int v]) (n := 9) (Nat.le_of_ble_eq_true rfl)
  rw [lg_entry_eq]
  generalize (lg_sl ([.ref h, .int v]) ++ List.replicate (9 - (lg_sl ([.ref h, .int v])).length) Slot.unset).toArray = ls at hl ⊢
  have hl : lv_has ls 9 [(0, .ref h), (1, .int v)] := hl
  refine lv_aload_n hx hb d_Mo_plan0_0 rfl (lv_at hl 0 rfl) ?_
  refine va_get (D := D) (ci := 13) (v := .ref (r 15)) (C := R_Mo) (T := F_Mo) (N := 54) hx hb hts i_Mo hown hK hP 0 rfl rfl 15 (by decide) (hts _ wd_1103) (fun _ h9 => h9) rfl d_Mo_plan0_1 ?_
  refine lv_iconst (v := 3) hx hb d_Mo_plan0_4 (by decide) ?_
  refine z_iald hx hb hK hP 3 0 rfl rfl 3 rfl (by omega) (by omega) d_Mo_plan0_5 ?_
  refine lv_bipush (v := 8) hx hb d_Mo_plan0_6 (by decide) ?_
  refine lv_ishl hx hb d_Mo_plan0_8 ?_
  refine lv_aload_n hx hb d_Mo_plan0_9 rfl (lv_at hl 0 rfl) ?_
  refine va_get (D := D) (ci := 13) (v := .ref (r 15)) (C := R_Mo) (T := F_Mo) (N := 54) hx hb hts i_Mo hown hK hP 0 rfl rfl 15 (by decide) (hts _ wd_1103) (fun _ h9 => h9) rfl d_Mo_plan0_10 ?_
  refine lv_iconst (v := 4) hx hb d_Mo_plan0_13 (by decide) ?_
  refine z_iald hx hb hK hP 3 0 rfl rfl 4 rfl (by omega) (by omega) d_Mo_plan0_14 ?_
  refine lv_ior hx hb d_Mo_plan0_15 ?_
  refine z_topi (w := nuV se 3) rfl ?_
  refine lv_istore_n (lv' := [(2, .int (nuV se 3)), (0, .ref h), (1, .int v)]) hx hb d_Mo_plan0_16 rfl hl (by decide) rfl (fun ls hl => ?_)
  refine lv_aload_n hx hb d_Mo_plan0_17 rfl (lv_at hl 1 rfl) ?_
  refine va_get (D := D) (ci := 13) (v := .ref (r 15)) (C := R_Mo) (T := F_Mo) (N := 54) hx hb hts i_Mo hown hK hP 0 rfl rfl 15 (by decide) (hts _ wd_1103) (fun _ h9 => h9) rfl d_Mo_plan0_18 ?_
  refine lv_iconst (v := 5) hx hb d_Mo_plan0_21 (by decide) ?_
  refine z_iald hx hb hK hP 3 0 rfl rfl 5 rfl (by omega) (by omega) d_Mo_plan0_22 ?_
  refine lv_iconst (v := 1) hx hb d_Mo_plan0_23 (by decide) ?_
  refine lv_ishr hx hb d_Mo_plan0_24 ?_
  refine lv_bipush (v := 31) hx hb d_Mo_plan0_25 (by decide) ?_
  refine lv_iand hx hb d_Mo_plan0_27 ?_
  refine z_topi (w := vsV se) rfl ?_
  refine lv_istore_n (lv' := [(3, .int (vsV se)), (2, .int (nuV se 3)), (0, .ref h), (1, .int v)]) hx hb d_Mo_plan0_28 rfl hl (by decide) rfl (fun ls hl => ?_)
  refine lv_iconst (v := 0) hx hb d_Mo_plan0_29 (by decide) ?_
  refine lv_istore (lv' := [(4, .int 0), (3, .int (vsV se)), (2, .int (nuV se 3)), (0, .ref h), (1, .int v)]) hx hb d_Mo_plan0_30 hl (by decide) rfl (fun ls hl => ?_)
  have loop32 : ∀ (N : Nat) (k : Nat) (H : Heap) (locs : List Loc) (ls : Array Slot) (hm : ng - k < N) (hk : k ≤ ng) (hkn : ∀ x, x < k → ¬ (g.nu x = nuV se 3 ∧ g.pi x = v)) (hl : lv_has ls 9 [(0, .ref h), (1, .int v), (2, .int (nuV se 3)), (3, .int (vsV se)), (4, .int (nI k))]) (hP : va_P D classes [(h, .inr (13, mO r th si (nI ln) lv (nI ng) pn pl rs)), (r 3, .inl (cI, 10, .inl tl)), (r 7, .inl (cI, 24, .inl sP)), (r 15, .inl (cI, 1024, .inl se)), (r 20, .inl (cI, 4, .inl g.nu)), (r 21, .inl (cI, 4, .inl g.pi)), (r 22, .inl (cI, 4, .inl g.vs)), (r 23, .inl (cI, 4, .inl g.cp)), (r 24, .inl (cI, 4, .inl g.sc)), (r 25, .inl (cZ, 4, .inl g.aw)), (r 26, .inl (cJ, 4, .inr (.inl g.nw))), (r 27, .inl (cI, 4, .inl g.wt)), (r 28, .inl (cI, 16, .inl g.ty)), (r 29, .inl (cI, 16, .inl g.sp)), (r 30, .inl (cJ, 24, .inr (.inl g.z.1))), (r 31, .inl (cI, 24, .inl g.z.2.1)), (r 32, .inl (cZ, 24, .inl g.z.2.2.1)), (r 33, .inl (cJ, 24, .inr (.inl g.z.2.2.2)))] H) (hD : va_D A [(h, .inr (13, mO r th si (nI ln) lv (nI ng) pn pl rs)), (r 3, .inl (cI, 10, .inl tl)), (r 7, .inl (cI, 24, .inl sP)), (r 15, .inl (cI, 1024, .inl se)), (r 20, .inl (cI, 4, .inl g.nu)), (r 21, .inl (cI, 4, .inl g.pi)), (r 22, .inl (cI, 4, .inl g.vs)), (r 23, .inl (cI, 4, .inl g.cp)), (r 24, .inl (cI, 4, .inl g.sc)), (r 25, .inl (cZ, 4, .inl g.aw)), (r 26, .inl (cJ, 4, .inr (.inl g.nw))), (r 27, .inl (cI, 4, .inl g.wt)), (r 28, .inl (cI, 16, .inl g.ty)), (r 29, .inl (cI, 16, .inl g.sp)), (r 30, .inl (cJ, 24, .inr (.inl g.z.1))), (r 31, .inl (cI, 24, .inl g.z.2.1)), (r 32, .inl (cZ, 24, .inl g.z.2.2.1)), (r 33, .inl (cJ, 24, .inr (.inl g.z.2.2.2)))]) (hS : va_S A s.heap H locs), W p l e ({ frames := 3, cells := 0, slots := 0, locals := 66 }) s m ([.ref h, .int v]).toArray below meth cd H locs 0 0 (MQ below (va_Qv (fun (u : PG × ((Nat → Int32) × (Nat → Int32))) => ((¬ ∃ k9 n9, plC g ng se sb ln v k9 n9) ∧ u = (g, (sP, tl))) ∨ (∃ k9 n9, plC g ng se sb ln v k9 n9 ∧ u = (plX g se sb k9 n9 n9, goU (sP, tl) v 24))) (fun (u : PG × ((Nat → Int32) × (Nat → Int32))) t => zW D (A) [(h, .inr (13, mO r th si (nI ln) lv (nI ng) pn pl rs)), (r 3, .inl (cI, 10, .inl u.2.2)), (r 7, .inl (cI, 24, .inl u.2.1)), (r 15, .inl (cI, 1024, .inl se)), (r 20, .inl (cI, 4, .inl u.1.nu)), (r 21, .inl (cI, 4, .inl u.1.pi)), (r 22, .inl (cI, 4, .inl u.1.vs)), (r 23, .inl (cI, 4, .inl u.1.cp)), (r 24, .inl (cI, 4, .inl u.1.sc)), (r 25, .inl (cZ, 4, .inl u.1.aw)), (r 26, .inl (cJ, 4, .inr (.inl u.1.nw))), (r 27, .inl (cI, 4, .inl u.1.wt)), (r 28, .inl (cI, 16, .inl u.1.ty)), (r 29, .inl (cI, 16, .inl u.1.sp)), (r 30, .inl (cJ, 24, .inr (.inl u.1.z.1))), (r 31, .inl (cI, 24, .inl u.1.z.2.1)), (r 32, .inl (cZ, 24, .inl u.1.z.2.2.1)), (r 33, .inl (cJ, 24, .inr (.inl u.1.z.2.2.2)))] [(cI, .int), (cJ, .long), (cZ, .boolean)] t) (A)) ([.ref h, .int v]).toArray s 0 0 (A)) (F0 m 32 ls []) := by
    intro N32
    induction N32 with
    | zero => intro k H locs ls hm hk hkn hl hP hD hS; exact absurd hm (Nat.not_lt_zero _)
    | succ N32 ih32 =>
      intro k H locs ls hm hk hkn hl hP hD hS
      refine lv_iload hx hb d_Mo_plan0_32 (lv_at hl 4 rfl) ?_
      refine lv_aload_n hx hb d_Mo_plan0_34 rfl (lv_at hl 0 rfl) ?_
      refine va_get (D := D) (ci := 13) (v := .int (nI ng)) (C := R_Mo) (T := F_Mo) (N := 54) hx hb hts i_Mo hown hK hP 0 rfl rfl 19 (by decide) (hts _ wd_1107) (fun _ h9 => h9) rfl d_Mo_plan0_35 ?_
      refine lv_icmp_ge (tgt := 69) hx hb d_Mo_plan0_38 rfl (fun h38 => ?_) (fun h38 => ?_)
      · have h38 := (nI_leI (by omega) (by omega)).mp h38
        obtain rfl : ng = k := by omega
        refine lv_iload hx hb d_Mo_plan0_69 (lv_at hl 4 rfl) ?_
        refine lv_aload_n hx hb d_Mo_plan0_71 rfl (lv_at hl 0 rfl) ?_
        refine va_get (D := D) (ci := 13) (v := .int (nI ng)) (C := R_Mo) (T := F_Mo) (N := 54) hx hb hts i_Mo hown hK hP 0 rfl rfl 19 (by decide) (hts _ wd_1107) (fun _ h9 => h9) rfl d_Mo_plan0_72 ?_
        refine lv_icmp_eq (tgt := 98) hx hb d_Mo_plan0_75 rfl (fun h75 => ?_) (fun h9 => absurd rfl h9)
        have hP9 := hP.sub (ws' := [(h, .inr (13, mO r th si (nI ln) lv (nI ng) pn pl rs)), (r 3, .inl (cI, 10, .inl tl)), (r 7, .inl (cI, 24, .inl sP)), (r 15, .inl (cI, 1024, .inl se)), (r 20, .inl (cI, 4, .inl g.nu)), (r 21, .inl (cI, 4, .inl g.pi)), (r 22, .inl (cI, 4, .inl g.vs)), (r 23, .inl (cI, 4, .inl g.cp)), (r 24, .inl (cI, 4, .inl g.sc)), (r 25, .inl (cZ, 4, .inl g.aw)), (r 26, .inl (cJ, 4, .inr (.inl g.nw))), (r 27, .inl (cI, 4, .inl g.wt)), (r 28, .inl (cI, 16, .inl g.ty)), (r 29, .inl (cI, 16, .inl g.sp)), (r 30, .inl (cJ, 24, .inr (.inl g.z.1))), (r 31, .inl (cI, 24, .inl g.z.2.1)), (r 32, .inl (cZ, 24, .inl g.z.2.2.1)), (r 33, .inl (cJ, 24, .inr (.inl g.z.2.2.2)))]) [0, 1, 2, 3, 4, 5, 6, 7, 8, 9, 10, 11, 12, 13, 14, 15, 16, 17] rfl
        have hD9 := hD.sub (ws' := [(h, .inr (13, mO r th si (nI ln) lv (nI ng) pn pl rs)), (r 3, .inl (cI, 10, .inl tl)), (r 7, .inl (cI, 24, .inl sP)), (r 15, .inl (cI, 1024, .inl se)), (r 20, .inl (cI, 4, .inl g.nu)), (r 21, .inl (cI, 4, .inl g.pi)), (r 22, .inl (cI, 4, .inl g.vs)), (r 23, .inl (cI, 4, .inl g.cp)), (r 24, .inl (cI, 4, .inl g.sc)), (r 25, .inl (cZ, 4, .inl g.aw)), (r 26, .inl (cJ, 4, .inr (.inl g.nw))), (r 27, .inl (cI, 4, .inl g.wt)), (r 28, .inl (cI, 16, .inl g.ty)), (r 29, .inl (cI, 16, .inl g.sp)), (r 30, .inl (cJ, 24, .inr (.inl g.z.1))), (r 31, .inl (cI, 24, .inl g.z.2.1)), (r 32, .inl (cZ, 24, .inl g.z.2.2.1)), (r 33, .inl (cJ, 24, .inr (.inl g.z.2.2.2)))]) [0, 1, 2, 3, 4, 5, 6, 7, 8, 9, 10, 11, 12, 13, 14, 15, 16, 17] (by decide) rfl
        have hK9 := hK.sub (tys' := [(cI, .int), (cJ, .long), (cZ, .boolean)]) [0, 1, 2] rfl
        exact W.vret hx hb hr (fun t ht hW => ⟨⟨(g, (sP, tl)), rfl, Or.inl ⟨by first | exact fun ⟨k9, n9, hc⟩ => h95 hc.2.2.1 | exact fun ⟨k9, n9, hc⟩ => hc.2.1 (by rw [pl_k hc ⟨h49, h60⟩ hkn]; exact h86) | exact fun ⟨k9, n9, hc⟩ => hkn k9 hc.1.1 hc.1.2.1, rfl⟩, ⟨by rw [ht]; exact hP9, va_K.moved hW.alike hK9, hD9⟩⟩, hS.F ht⟩) hS.2.2 d_Mo_plan0_98
      · have h38 := mt (nI_leI (by omega) (by omega)).mpr h38
        refine lv_aload_n hx hb d_Mo_plan0_41 rfl (lv_at hl 0 rfl) ?_
        refine va_get (D := D) (ci := 13) (v := .ref (r 20)) (C := R_Mo) (T := F_Mo) (N := 54) hx hb hts i_Mo hown hK hP 0 rfl rfl 20 (by decide) (hts _ wd_1108) (fun _ h9 => h9) rfl d_Mo_plan0_42 ?_
        refine lv_iload hx hb d_Mo_plan0_45 (lv_at hl 4 rfl) ?_
        refine z_iald hx hb hK hP 4 0 rfl rfl k rfl (by omega) (by omega) d_Mo_plan0_47 ?_
        refine lv_iload_n hx hb d_Mo_plan0_48 rfl (lv_at hl 2 rfl) ?_
        refine lv_icmp_ne (tgt := 63) hx hb d_Mo_plan0_49 rfl (fun h49 => ?_) (fun h49 => ?_)
        · refine lv_iinc (k := 4) (v := nI (k + 1)) (lv' := [(4, .int (nI (k + 1))), (0, .ref h), (1, .int v), (2, .int (nuV se 3)), (3, .int (vsV se))]) hx hb d_Mo_plan0_63 hl rfl (nI_1 k) (by decide) rfl (fun ls hl => ?_)
          refine lv_goto (tgt := 32) hx hb d_Mo_plan0_66 rfl ?_
          exact ih32 (k + 1) H locs ls (by omega) (by omega) (fun x hx => if c9 : x = k then by rw [c9]; exact fun z => (by first | exact h49 z.1 | exact h60 z.2) else hkn x (by omega)) (lv_sub hl [1, 2, 3, 4, 0] rfl) hP hD hS
        · refine lv_aload_n hx hb d_Mo_plan0_52 rfl (lv_at hl 0 rfl) ?_
          refine va_get (D := D) (ci := 13) (v := .ref (r 21)) (C := R_Mo) (T := F_Mo) (N := 54) hx hb hts i_Mo hown hK hP 0 rfl rfl 21 (by decide) (hts _ wd_1109) (fun _ h9 => h9) rfl d_Mo_plan0_53 ?_
          refine lv_iload hx hb d_Mo_plan0_56 (lv_at hl 4 rfl) ?_
          refine z_iald hx hb hK hP 5 0 rfl rfl k rfl (by omega) (by omega) d_Mo_plan0_58 ?_
          refine lv_iload_n hx hb d_Mo_plan0_59 rfl (lv_at hl 1 rfl) ?_
          refine lv_icmp_eq (tgt := 69) hx hb d_Mo_plan0_60 rfl (fun h60 => ?_) (fun h60 => ?_)
          · refine lv_iload hx hb d_Mo_plan0_69 (lv_at hl 4 rfl) ?_
            refine lv_aload_n hx hb d_Mo_plan0_71 rfl (lv_at hl 0 rfl) ?_
            refine va_get (D := D) (ci := 13) (v := .int (nI ng)) (C := R_Mo) (T := F_Mo) (N := 54) hx hb hts i_Mo hown hK hP 0 rfl rfl 19 (by decide) (hts _ wd_1107) (fun _ h9 => h9) rfl d_Mo_plan0_72 ?_
            refine lv_icmp_eq (tgt := 98) hx hb d_Mo_plan0_75 rfl (fun h9 => absurd ((nI_eq (by omega) (by omega)).mp h9) (by omega)) (fun h75 => ?_)
            refine lv_aload_n hx hb d_Mo_plan0_78 rfl (lv_at hl 0 rfl) ?_
            refine va_get (D := D) (ci := 13) (v := .ref (r 22)) (C := R_Mo) (T := F_Mo) (N := 54) hx hb hts i_Mo hown hK hP 0 rfl rfl 22 (by decide) (hts _ wd_1110) (fun _ h9 => h9) rfl d_Mo_plan0_79 ?_
            refine lv_iload hx hb d_Mo_plan0_82 (lv_at hl 4 rfl) ?_
            refine z_iald hx hb hK hP 6 0 rfl rfl k rfl (by omega) (by omega) d_Mo_plan0_84 ?_
            refine lv_iload_n hx hb d_Mo_plan0_85 rfl (lv_at hl 3 rfl) ?_
            refine lv_icmp_eq (tgt := 98) hx hb d_Mo_plan0_86 rfl (fun h86 => ?_) (fun h86 => ?_)
            · have hP9 := hP.sub (ws' := [(h, .inr (13, mO r th si (nI ln) lv (nI ng) pn pl rs)), (r 3, .inl (cI, 10, .inl tl)), (r 7, .inl (cI, 24, .inl sP)), (r 15, .inl (cI, 1024, .inl se)), (r 20, .inl (cI, 4, .inl g.nu)), (r 21, .inl (cI, 4, .inl g.pi)), (r 22, .inl (cI, 4, .inl g.vs)), (r 23, .inl (cI, 4, .inl g.cp)), (r 24, .inl (cI, 4, .inl g.sc)), (r 25, .inl (cZ, 4, .inl g.aw)), (r 26, .inl (cJ, 4, .inr (.inl g.nw))), (r 27, .inl (cI, 4, .inl g.wt)), (r 28, .inl (cI, 16, .inl g.ty)), (r 29, .inl (cI, 16, .inl g.sp)), (r 30, .inl (cJ, 24, .inr (.inl g.z.1))), (r 31, .inl (cI, 24, .inl g.z.2.1)), (r 32, .inl (cZ, 24, .inl g.z.2.2.1)), (r 33, .inl (cJ, 24, .inr (.inl g.z.2.2.2)))]) [0, 1, 2, 3, 4, 5, 6, 7, 8, 9, 10, 11, 12, 13, 14, 15, 16, 17] rfl
              have hD9 := hD.sub (ws' := [(h, .inr (13, mO r th si (nI ln) lv (nI ng) pn pl rs)), (r 3, .inl (cI, 10, .inl tl)), (r 7, .inl (cI, 24, .inl sP)), (r 15, .inl (cI, 1024, .inl se)), (r 20, .inl (cI, 4, .inl g.nu)), (r 21, .inl (cI, 4, .inl g.pi)), (r 22, .inl (cI, 4, .inl g.vs)), (r 23, .inl (cI, 4, .inl g.cp)), (r 24, .inl (cI, 4, .inl g.sc)), (r 25, .inl (cZ, 4, .inl g.aw)), (r 26, .inl (cJ, 4, .inr (.inl g.nw))), (r 27, .inl (cI, 4, .inl g.wt)), (r 28, .inl (cI, 16, .inl g.ty)), (r 29, .inl (cI, 16, .inl g.sp)), (r 30, .inl (cJ, 24, .inr (.inl g.z.1))), (r 31, .inl (cI, 24, .inl g.z.2.1)), (r 32, .inl (cZ, 24, .inl g.z.2.2.1)), (r 33, .inl (cJ, 24, .inr (.inl g.z.2.2.2)))]) [0, 1, 2, 3, 4, 5, 6, 7, 8, 9, 10, 11, 12, 13, 14, 15, 16, 17] (by decide) rfl
              have hK9 := hK.sub (tys' := [(cI, .int), (cJ, .long), (cZ, .boolean)]) [0, 1, 2] rfl
              exact W.vret hx hb hr (fun t ht hW => ⟨⟨(g, (sP, tl)), rfl, Or.inl ⟨by first | exact fun ⟨k9, n9, hc⟩ => h95 hc.2.2.1 | exact fun ⟨k9, n9, hc⟩ => hc.2.1 (by rw [pl_k hc ⟨h49, h60⟩ hkn]; exact h86) | exact fun ⟨k9, n9, hc⟩ => hkn k9 hc.1.1 hc.1.2.1, rfl⟩, ⟨by rw [ht]; exact hP9, va_K.moved hW.alike hK9, hD9⟩⟩, hS.F ht⟩) hS.2.2 d_Mo_plan0_98
            · refine lv_aload_n hx hb d_Mo_plan0_89 rfl (lv_at hl 0 rfl) ?_
              refine va_get (D := D) (ci := 13) (v := .int (nI ln)) (C := R_Mo) (T := F_Mo) (N := 54) hx hb hts i_Mo hown hK hP 0 rfl rfl 16 (by decide) (hts _ wd_1104) (fun _ h9 => h9) rfl d_Mo_plan0_90 ?_
              refine lv_bipush (v := 12) hx hb d_Mo_plan0_93 (by decide) ?_
              refine lv_icmp_ge (tgt := 99) hx hb d_Mo_plan0_95 rfl (fun h95 => ?_) (fun h95 => ?_)
              · have h95 := (nI_leI (a := 12) (by omega) (by omega)).mp h95
                have hb10 := hse 10 (by omega)
                have hb11 := hse 11 (by omega)
                refine lv_bipush (v := 12) hx hb d_Mo_plan0_99 (by decide) ?_
                refine lv_aload_n hx hb d_Mo_plan0_101 rfl (lv_at hl 0 rfl) ?_
                refine va_get (D := D) (ci := 13) (v := .ref (r 15)) (C := R_Mo) (T := F_Mo) (N := 54) hx hb hts i_Mo hown hK hP 0 rfl rfl 15 (by decide) (hts _ wd_1103) (fun _ h9 => h9) rfl d_Mo_plan0_102 ?_
                refine lv_bipush (v := 10) hx hb d_Mo_plan0_105 (by decide) ?_
                refine z_iald hx hb hK hP 3 0 rfl rfl 10 rfl (by omega) (by omega) d_Mo_plan0_107 ?_
                refine z_topi (w := nI (sb 10)) hb10.1 ?_
                refine lv_bipush (v := 15) hx hb d_Mo_plan0_108 (by decide) ?_
                refine lv_iand hx hb d_Mo_plan0_110 ?_
                refine lv_bipush (v := 8) hx hb d_Mo_plan0_111 (by decide) ?_
                refine lv_ishl hx hb d_Mo_plan0_113 ?_
                refine lv_aload_n hx hb d_Mo_plan0_114 rfl (lv_at hl 0 rfl) ?_
                refine va_get (D := D) (ci := 13) (v := .ref (r 15)) (C := R_Mo) (T := F_Mo) (N := 54) hx hb hts i_Mo hown hK hP 0 rfl rfl 15 (by decide) (hts _ wd_1103) (fun _ h9 => h9) rfl d_Mo_plan0_115 ?_
                refine lv_bipush (v := 11) hx hb d_Mo_plan0_118 (by decide) ?_
                refine z_iald hx hb hK hP 3 0 rfl rfl 11 rfl (by omega) (by omega) d_Mo_plan0_120 ?_
                refine z_topi (w := nI (sb 11)) hb11.1 ?_
                refine lv_ior hx hb d_Mo_plan0_121 ?_
                refine z_topi (w := nI (sb 10 % 16 * 256 + sb 11)) (pl_or hb10.2 hb11.2) ?_
                refine lv_iadd hx hb d_Mo_plan0_122 ?_
                refine z_topi (w := nI (plA sb 0)) (nI_add 12 _) ?_
                refine lv_istore (lv' := [(5, .int (nI (plA sb 0))), (0, .ref h), (1, .int v), (2, .int (nuV se 3)), (3, .int (vsV se)), (4, .int (nI k))]) hx hb d_Mo_plan0_123 hl (by decide) rfl (fun ls hl => ?_)
                refine lv_iload hx hb d_Mo_plan0_125 (lv_at hl 0 rfl) ?_
                refine lv_istore (lv' := [(6, .int (nI (plA sb 0))), (5, .int (nI (plA sb 0))), (0, .ref h), (1, .int v), (2, .int (nuV se 3)), (3, .int (vsV se)), (4, .int (nI k))]) hx hb d_Mo_plan0_127 hl (by decide) rfl (fun ls hl => ?_)
                refine lv_iconst (v := 0) hx hb d_Mo_plan0_129 (by decide) ?_
                refine lv_istore (lv' := [(7, .int 0), (6, .int (nI (plA sb 0))), (5, .int (nI (plA sb 0))), (0, .ref h), (1, .int v), (2, .int (nuV se 3)), (3, .int (vsV se)), (4, .int (nI k))]) hx hb d_Mo_plan0_130 hl (by decide) rfl (fun ls hl => ?_)
                have loop132 : ∀ (N : Nat) (mm : Nat) (aa : Nat) (H : Heap) (locs : List Loc) (ls : Array Slot) (hm : 7000 - aa < N) (haa : aa = plA sb mm) (ham : 5 * mm + 12 ≤ aa) (ha6 : aa ≤ 6000) (hm5 : ∀ x, x < mm → plA sb x + 5 ≤ ln) (hl : lv_has ls 9 [(0, .ref h), (1, .int v), (3, .int (vsV se)), (4, .int (nI k)), (5, .int (nI (plA sb 0))), (6, .int (nI aa)), (7, .int (nI mm))]) (hP : va_P D classes [(h, .inr (13, mO r th si (nI ln) lv (nI ng) pn pl rs)), (r 3, .inl (cI, 10, .inl tl)), (r 7, .inl (cI, 24, .inl sP)), (r 15, .inl (cI, 1024, .inl se)), (r 20, .inl (cI, 4, .inl g.nu)), (r 21, .inl (cI, 4, .inl g.pi)), (r 22, .inl (cI, 4, .inl g.vs)), (r 23, .inl (cI, 4, .inl g.cp)), (r 24, .inl (cI, 4, .inl g.sc)), (r 25, .inl (cZ, 4, .inl g.aw)), (r 26, .inl (cJ, 4, .inr (.inl g.nw))), (r 27, .inl (cI, 4, .inl g.wt)), (r 28, .inl (cI, 16, .inl g.ty)), (r 29, .inl (cI, 16, .inl g.sp)), (r 30, .inl (cJ, 24, .inr (.inl g.z.1))), (r 31, .inl (cI, 24, .inl g.z.2.1)), (r 32, .inl (cZ, 24, .inl g.z.2.2.1)), (r 33, .inl (cJ, 24, .inr (.inl g.z.2.2.2)))] H) (hD : va_D A [(h, .inr (13, mO r th si (nI ln) lv (nI ng) pn pl rs)), (r 3, .inl (cI, 10, .inl tl)), (r 7, .inl (cI, 24, .inl sP)), (r 15, .inl (cI, 1024, .inl se)), (r 20, .inl (cI, 4, .inl g.nu)), (r 21, .inl (cI, 4, .inl g.pi)), (r 22, .inl (cI, 4, .inl g.vs)), (r 23, .inl (cI, 4, .inl g.cp)), (r 24, .inl (cI, 4, .inl g.sc)), (r 25, .inl (cZ, 4, .inl g.aw)), (r 26, .inl (cJ, 4, .inr (.inl g.nw))), (r 27, .inl (cI, 4, .inl g.wt)), (r 28, .inl (cI, 16, .inl g.ty)), (r 29, .inl (cI, 16, .inl g.sp)), (r 30, .inl (cJ, 24, .inr (.inl g.z.1))), (r 31, .inl (cI, 24, .inl g.z.2.1)), (r 32, .inl (cZ, 24, .inl g.z.2.2.1)), (r 33, .inl (cJ, 24, .inr (.inl g.z.2.2.2)))]) (hS : va_S A s.heap H locs), W p l e ({ frames := 3, cells := 0, slots := 0, locals := 66 }) s m ([.ref h, .int v]).toArray below meth cd H locs 0 0 (MQ below (va_Qv (fun (u : PG × ((Nat → Int32) × (Nat → Int32))) => ((¬ ∃ k9 n9, plC g ng se sb ln v k9 n9) ∧ u = (g, (sP, tl))) ∨ (∃ k9 n9, plC g ng se sb ln v k9 n9 ∧ u = (plX g se sb k9 n9 n9, goU (sP, tl) v 24))) (fun (u : PG × ((Nat → Int32) × (Nat → Int32))) t => zW D (A) [(h, .inr (13, mO r th si (nI ln) lv (nI ng) pn pl rs)), (r 3, .inl (cI, 10, .inl u.2.2)), (r 7, .inl (cI, 24, .inl u.2.1)), (r 15, .inl (cI, 1024, .inl se)), (r 20, .inl (cI, 4, .inl u.1.nu)), (r 21, .inl (cI, 4, .inl u.1.pi)), (r 22, .inl (cI, 4, .inl u.1.vs)), (r 23, .inl (cI, 4, .inl u.1.cp)), (r 24, .inl (cI, 4, .inl u.1.sc)), (r 25, .inl (cZ, 4, .inl u.1.aw)), (r 26, .inl (cJ, 4, .inr (.inl u.1.nw))), (r 27, .inl (cI, 4, .inl u.1.wt)), (r 28, .inl (cI, 16, .inl u.1.ty)), (r 29, .inl (cI, 16, .inl u.1.sp)), (r 30, .inl (cJ, 24, .inr (.inl u.1.z.1))), (r 31, .inl (cI, 24, .inl u.1.z.2.1)), (r 32, .inl (cZ, 24, .inl u.1.z.2.2.1)), (r 33, .inl (cJ, 24, .inr (.inl u.1.z.2.2.2)))] [(cI, .int), (cJ, .long), (cZ, .boolean)] t) (A)) ([.ref h, .int v]).toArray s 0 0 (A)) (F0 m 132 ls []) := by
                  intro N132
                  induction N132 with
                  | zero => intro mm aa H locs ls hm haa ham ha6 hm5 hl hP hD hS; exact absurd hm (Nat.not_lt_zero _)
                  | succ N132 ih132 =>
                    intro mm aa H locs ls hm haa ham ha6 hm5 hl hP hD hS
                    refine lv_iload hx hb d_Mo_plan0_132 (lv_at hl 5 rfl) ?_
                    refine lv_iconst (v := 5) hx hb d_Mo_plan0_134 (by decide) ?_
                    refine lv_iadd hx hb d_Mo_plan0_135 ?_
                    refine z_topi (w := nI (aa + 5)) (nI_add _ 5) ?_
                    refine lv_aload_n hx hb d_Mo_plan0_136 rfl (lv_at hl 0 rfl) ?_
                    refine va_get (D := D) (ci := 13) (v := .int (nI ln)) (C := R_Mo) (T := F_Mo) (N := 54) hx hb hts i_Mo hown hK hP 0 rfl rfl 16 (by decide) (hts _ wd_1104) (fun _ h9 => h9) rfl d_Mo_plan0_137 ?_
                    refine lv_icmp_gt (tgt := 181) hx hb d_Mo_plan0_140 rfl (fun h140 => ?_) (fun h140 => ?_)
                    · have h140 := (nI_ltI (by omega) (by omega)).mp h140
                      refine lv_iload hx hb d_Mo_plan0_181 (lv_at hl 5 rfl) ?_
                      refine lv_aload_n hx hb d_Mo_plan0_183 rfl (lv_at hl 0 rfl) ?_
                      refine va_get (D := D) (ci := 13) (v := .int (nI ln)) (C := R_Mo) (T := F_Mo) (N := 54) hx hb hts i_Mo hown hK hP 0 rfl rfl 16 (by decide) (hts _ wd_1104) (fun _ h9 => h9) rfl d_Mo_plan0_184 ?_
                      refine lv_icmp_ne (tgt := 196) hx hb d_Mo_plan0_187 rfl (fun h187 => ?_) (fun h187 => ?_)
                      · have h187 : ¬ aa = ln := fun z => h187 (by rw [z])
                        have hP9 := hP.sub (ws' := [(h, .inr (13, mO r th si (nI ln) lv (nI ng) pn pl rs)), (r 3, .inl (cI, 10, .inl tl)), (r 7, .inl (cI, 24, .inl sP)), (r 15, .inl (cI, 1024, .inl se)), (r 20, .inl (cI, 4, .inl g.nu)), (r 21, .inl (cI, 4, .inl g.pi)), (r 22, .inl (cI, 4, .inl g.vs)), (r 23, .inl (cI, 4, .inl g.cp)), (r 24, .inl (cI, 4, .inl g.sc)), (r 25, .inl (cZ, 4, .inl g.aw)), (r 26, .inl (cJ, 4, .inr (.inl g.nw))), (r 27, .inl (cI, 4, .inl g.wt)), (r 28, .inl (cI, 16, .inl g.ty)), (r 29, .inl (cI, 16, .inl g.sp)), (r 30, .inl (cJ, 24, .inr (.inl g.z.1))), (r 31, .inl (cI, 24, .inl g.z.2.1)), (r 32, .inl (cZ, 24, .inl g.z.2.2.1)), (r 33, .inl (cJ, 24, .inr (.inl g.z.2.2.2)))]) [0, 1, 2, 3, 4, 5, 6, 7, 8, 9, 10, 11, 12, 13, 14, 15, 16, 17] rfl
                        have hD9 := hD.sub (ws' := [(h, .inr (13, mO r th si (nI ln) lv (nI ng) pn pl rs)), (r 3, .inl (cI, 10, .inl tl)), (r 7, .inl (cI, 24, .inl sP)), (r 15, .inl (cI, 1024, .inl se)), (r 20, .inl (cI, 4, .inl g.nu)), (r 21, .inl (cI, 4, .inl g.pi)), (r 22, .inl (cI, 4, .inl g.vs)), (r 23, .inl (cI, 4, .inl g.cp)), (r 24, .inl (cI, 4, .inl g.sc)), (r 25, .inl (cZ, 4, .inl g.aw)), (r 26, .inl (cJ, 4, .inr (.inl g.nw))), (r 27, .inl (cI, 4, .inl g.wt)), (r 28, .inl (cI, 16, .inl g.ty)), (r 29, .inl (cI, 16, .inl g.sp)), (r 30, .inl (cJ, 24, .inr (.inl g.z.1))), (r 31, .inl (cI, 24, .inl g.z.2.1)), (r 32, .inl (cZ, 24, .inl g.z.2.2.1)), (r 33, .inl (cJ, 24, .inr (.inl g.z.2.2.2)))]) [0, 1, 2, 3, 4, 5, 6, 7, 8, 9, 10, 11, 12, 13, 14, 15, 16, 17] (by decide) rfl
                        have hK9 := hK.sub (tys' := [(cI, .int), (cJ, .long), (cZ, .boolean)]) [0, 1, 2] rfl
                        exact W.vret hx hb hr (fun t ht hW => ⟨⟨(g, (sP, tl)), rfl, Or.inl ⟨fun ⟨k9, n9, hc⟩ => by have hq := pl_n hc (by rw [← haa]; omega) hm5; have h1 := hc.2.2.2.1; have h2 := hc.2.2.2.2.1; rw [hq] at h1 h2; rw [← haa] at h1; omega, rfl⟩, ⟨by rw [ht]; exact hP9, va_K.moved hW.alike hK9, hD9⟩⟩, hS.F ht⟩) hS.2.2 d_Mo_plan0_196
                      · have h187 := (nI_eq (by omega) (by omega)).mp h187
                        refine lv_iload hx hb d_Mo_plan0_190 (lv_at hl 6 rfl) ?_
                        refine lv_iconst (v := 4) hx hb d_Mo_plan0_192 (by decide) ?_
                        refine lv_icmp_le (tgt := 197) hx hb d_Mo_plan0_193 rfl (fun h193 => ?_) (fun h193 => ?_)
                        · have h193 := (nI_leI (b := 4) (by omega) (by omega)).mp h193
                          have hpc : plC g ng se sb ln v k mm := ⟨⟨by omega, ⟨h49, h60⟩, hkn⟩, h86, h95, by rw [← haa]; exact h187, h193, hm5⟩
                          refine lv_aload_n hx hb d_Mo_plan0_197 rfl (lv_at hl 0 rfl) ?_
                          refine va_get (D := D) (ci := 13) (v := .ref (r 22)) (C := R_Mo) (T := F_Mo) (N := 54) hx hb hts i_Mo hown hK hP 0 rfl rfl 22 (by decide) (hts _ wd_1110) (fun _ h9 => h9) rfl d_Mo_plan0_198 ?_
                          refine lv_iload hx hb d_Mo_plan0_201 (lv_at hl 3 rfl) ?_
                          refine lv_iload_n hx hb d_Mo_plan0_203 rfl (lv_at hl 2 rfl) ?_
                          refine z_iast hx hb hK hP hD hS 6 0 rfl rfl k rfl (by omega) (by omega) d_Mo_plan0_204 (fun H locs hP hD hS => ?_)
                          have hP : va_P D classes [(h, .inr (13, mO r th si (nI ln) lv (nI ng) pn pl rs)), (r 3, .inl (cI, 10, .inl tl)), (r 7, .inl (cI, 24, .inl sP)), (r 15, .inl (cI, 1024, .inl se)), (r 20, .inl (cI, 4, .inl g.nu)), (r 21, .inl (cI, 4, .inl g.pi)), (r 22, .inl (cI, 4, .inl (upd g.vs k (vsV se)))), (r 23, .inl (cI, 4, .inl g.cp)), (r 24, .inl (cI, 4, .inl g.sc)), (r 25, .inl (cZ, 4, .inl g.aw)), (r 26, .inl (cJ, 4, .inr (.inl g.nw))), (r 27, .inl (cI, 4, .inl g.wt)), (r 28, .inl (cI, 16, .inl g.ty)), (r 29, .inl (cI, 16, .inl g.sp)), (r 30, .inl (cJ, 24, .inr (.inl g.z.1))), (r 31, .inl (cI, 24, .inl g.z.2.1)), (r 32, .inl (cZ, 24, .inl g.z.2.2.1)), (r 33, .inl (cJ, 24, .inr (.inl g.z.2.2.2)))] H := hP
                          have hD : va_D A [(h, .inr (13, mO r th si (nI ln) lv (nI ng) pn pl rs)), (r 3, .inl (cI, 10, .inl tl)), (r 7, .inl (cI, 24, .inl sP)), (r 15, .inl (cI, 1024, .inl se)), (r 20, .inl (cI, 4, .inl g.nu)), (r 21, .inl (cI, 4, .inl g.pi)), (r 22, .inl (cI, 4, .inl (upd g.vs k (vsV se)))), (r 23, .inl (cI, 4, .inl g.cp)), (r 24, .inl (cI, 4, .inl g.sc)), (r 25, .inl (cZ, 4, .inl g.aw)), (r 26, .inl (cJ, 4, .inr (.inl g.nw))), (r 27, .inl (cI, 4, .inl g.wt)), (r 28, .inl (cI, 16, .inl g.ty)), (r 29, .inl (cI, 16, .inl g.sp)), (r 30, .inl (cJ, 24, .inr (.inl g.z.1))), (r 31, .inl (cI, 24, .inl g.z.2.1)), (r 32, .inl (cZ, 24, .inl g.z.2.2.1)), (r 33, .inl (cJ, 24, .inr (.inl g.z.2.2.2)))] := hD
                          refine lv_aload_n hx hb d_Mo_plan0_205 rfl (lv_at hl 0 rfl) ?_
                          refine va_get (D := D) (ci := 13) (v := .ref (r 23)) (C := R_Mo) (T := F_Mo) (N := 54) hx hb hts i_Mo hown hK hP 0 rfl rfl 23 (by decide) (hts _ wd_1111) (fun _ h9 => h9) rfl d_Mo_plan0_206 ?_
                          refine lv_iload hx hb d_Mo_plan0_209 (lv_at hl 3 rfl) ?_
                          refine lv_aload_n hx hb d_Mo_plan0_211 rfl (lv_at hl 0 rfl) ?_
                          refine va_get (D := D) (ci := 13) (v := .ref (r 15)) (C := R_Mo) (T := F_Mo) (N := 54) hx hb hts i_Mo hown hK hP 0 rfl rfl 15 (by decide) (hts _ wd_1103) (fun _ h9 => h9) rfl d_Mo_plan0_212 ?_
                          refine lv_bipush (v := 8) hx hb d_Mo_plan0_215 (by decide) ?_
                          refine z_iald hx hb hK hP 3 0 rfl rfl 8 rfl (by omega) (by omega) d_Mo_plan0_217 ?_
                          refine lv_bipush (v := 31) hx hb d_Mo_plan0_218 (by decide) ?_
                          refine lv_iand hx hb d_Mo_plan0_220 ?_
                          refine lv_bipush (v := 8) hx hb d_Mo_plan0_221 (by decide) ?_
                          refine lv_ishl hx hb d_Mo_plan0_223 ?_
                          refine lv_aload_n hx hb d_Mo_plan0_224 rfl (lv_at hl 0 rfl) ?_
                          refine va_get (D := D) (ci := 13) (v := .ref (r 15)) (C := R_Mo) (T := F_Mo) (N := 54) hx hb hts i_Mo hown hK hP 0 rfl rfl 15 (by decide) (hts _ wd_1103) (fun _ h9 => h9) rfl d_Mo_plan0_225 ?_
                          refine lv_bipush (v := 9) hx hb d_Mo_plan0_228 (by decide) ?_
                          refine z_iald hx hb hK hP 3 0 rfl rfl 9 rfl (by omega) (by omega) d_Mo_plan0_230 ?_
                          refine lv_ior hx hb d_Mo_plan0_231 ?_
                          refine z_topi (w := piV se 6) rfl ?_
                          refine z_iast hx hb hK hP hD hS 7 0 rfl rfl k rfl (by omega) (by omega) d_Mo_plan0_232 (fun H locs hP hD hS => ?_)
                          have hP : va_P D classes [(h, .inr (13, mO r th si (nI ln) lv (nI ng) pn pl rs)), (r 3, .inl (cI, 10, .inl tl)), (r 7, .inl (cI, 24, .inl sP)), (r 15, .inl (cI, 1024, .inl se)), (r 20, .inl (cI, 4, .inl g.nu)), (r 21, .inl (cI, 4, .inl g.pi)), (r 22, .inl (cI, 4, .inl (upd g.vs k (vsV se)))), (r 23, .inl (cI, 4, .inl (upd g.cp k (piV se 6)))), (r 24, .inl (cI, 4, .inl g.sc)), (r 25, .inl (cZ, 4, .inl g.aw)), (r 26, .inl (cJ, 4, .inr (.inl g.nw))), (r 27, .inl (cI, 4, .inl g.wt)), (r 28, .inl (cI, 16, .inl g.ty)), (r 29, .inl (cI, 16, .inl g.sp)), (r 30, .inl (cJ, 24, .inr (.inl g.z.1))), (r 31, .inl (cI, 24, .inl g.z.2.1)), (r 32, .inl (cZ, 24, .inl g.z.2.2.1)), (r 33, .inl (cJ, 24, .inr (.inl g.z.2.2.2)))] H := hP
                          have hD : va_D A [(h, .inr (13, mO r th si (nI ln) lv (nI ng) pn pl rs)), (r 3, .inl (cI, 10, .inl tl)), (r 7, .inl (cI, 24, .inl sP)), (r 15, .inl (cI, 1024, .inl se)), (r 20, .inl (cI, 4, .inl g.nu)), (r 21, .inl (cI, 4, .inl g.pi)), (r 22, .inl (cI, 4, .inl (upd g.vs k (vsV se)))), (r 23, .inl (cI, 4, .inl (upd g.cp k (piV se 6)))), (r 24, .inl (cI, 4, .inl g.sc)), (r 25, .inl (cZ, 4, .inl g.aw)), (r 26, .inl (cJ, 4, .inr (.inl g.nw))), (r 27, .inl (cI, 4, .inl g.wt)), (r 28, .inl (cI, 16, .inl g.ty)), (r 29, .inl (cI, 16, .inl g.sp)), (r 30, .inl (cJ, 24, .inr (.inl g.z.1))), (r 31, .inl (cI, 24, .inl g.z.2.1)), (r 32, .inl (cZ, 24, .inl g.z.2.2.1)), (r 33, .inl (cJ, 24, .inr (.inl g.z.2.2.2)))] := hD
                          refine lv_aload_n hx hb d_Mo_plan0_233 rfl (lv_at hl 0 rfl) ?_
                          refine va_get (D := D) (ci := 13) (v := .ref (r 24)) (C := R_Mo) (T := F_Mo) (N := 54) hx hb hts i_Mo hown hK hP 0 rfl rfl 24 (by decide) (hts _ wd_1112) (fun _ h9 => h9) rfl d_Mo_plan0_234 ?_
                          refine lv_iload hx hb d_Mo_plan0_237 (lv_at hl 3 rfl) ?_
                          refine lv_iload hx hb d_Mo_plan0_239 (lv_at hl 6 rfl) ?_
                          refine z_iast hx hb hK hP hD hS 8 0 rfl rfl k rfl (by omega) (by omega) d_Mo_plan0_241 (fun H locs hP hD hS => ?_)
                          have hP : va_P D classes [(h, .inr (13, mO r th si (nI ln) lv (nI ng) pn pl rs)), (r 3, .inl (cI, 10, .inl tl)), (r 7, .inl (cI, 24, .inl sP)), (r 15, .inl (cI, 1024, .inl se)), (r 20, .inl (cI, 4, .inl g.nu)), (r 21, .inl (cI, 4, .inl g.pi)), (r 22, .inl (cI, 4, .inl (upd g.vs k (vsV se)))), (r 23, .inl (cI, 4, .inl (upd g.cp k (piV se 6)))), (r 24, .inl (cI, 4, .inl (upd g.sc k (nI mm)))), (r 25, .inl (cZ, 4, .inl g.aw)), (r 26, .inl (cJ, 4, .inr (.inl g.nw))), (r 27, .inl (cI, 4, .inl g.wt)), (r 28, .inl (cI, 16, .inl g.ty)), (r 29, .inl (cI, 16, .inl g.sp)), (r 30, .inl (cJ, 24, .inr (.inl g.z.1))), (r 31, .inl (cI, 24, .inl g.z.2.1)), (r 32, .inl (cZ, 24, .inl g.z.2.2.1)), (r 33, .inl (cJ, 24, .inr (.inl g.z.2.2.2)))] H := hP
                          have hD : va_D A [(h, .inr (13, mO r th si (nI ln) lv (nI ng) pn pl rs)), (r 3, .inl (cI, 10, .inl tl)), (r 7, .inl (cI, 24, .inl sP)), (r 15, .inl (cI, 1024, .inl se)), (r 20, .inl (cI, 4, .inl g.nu)), (r 21, .inl (cI, 4, .inl g.pi)), (r 22, .inl (cI, 4, .inl (upd g.vs k (vsV se)))), (r 23, .inl (cI, 4, .inl (upd g.cp k (piV se 6)))), (r 24, .inl (cI, 4, .inl (upd g.sc k (nI mm)))), (r 25, .inl (cZ, 4, .inl g.aw)), (r 26, .inl (cJ, 4, .inr (.inl g.nw))), (r 27, .inl (cI, 4, .inl g.wt)), (r 28, .inl (cI, 16, .inl g.ty)), (r 29, .inl (cI, 16, .inl g.sp)), (r 30, .inl (cJ, 24, .inr (.inl g.z.1))), (r 31, .inl (cI, 24, .inl g.z.2.1)), (r 32, .inl (cZ, 24, .inl g.z.2.2.1)), (r 33, .inl (cJ, 24, .inr (.inl g.z.2.2.2)))] := hD
                          refine lv_iload hx hb d_Mo_plan0_242 (lv_at hl 4 rfl) ?_
                          refine lv_istore (lv' := [(6, .int (nI (plA sb 0))), (0, .ref h), (1, .int v), (3, .int (vsV se)), (4, .int (nI k)), (5, .int (nI (plA sb 0))), (7, .int (nI mm))]) hx hb d_Mo_plan0_244 hl (by decide) rfl (fun ls hl => ?_)
                          refine lv_iconst (v := 0) hx hb d_Mo_plan0_246 (by decide) ?_
                          refine lv_istore (lv' := [(8, .int 0), (6, .int (nI (plA sb 0))), (0, .ref h), (1, .int v), (3, .int (vsV se)), (4, .int (nI k)), (5, .int (nI (plA sb 0))), (7, .int (nI mm))]) hx hb d_Mo_plan0_247 hl (by decide) rfl (fun ls hl => ?_)
                          have loop249 : ∀ (N : Nat) (j : Nat) (H : Heap) (locs : List Loc) (ls : Array Slot) (hm : mm - j < N) (hj : j ≤ mm) (hl : lv_has ls 9 [(0, .ref h), (1, .int v), (4, .int (nI k)), (6, .int (nI (plA sb j))), (7, .int (nI mm)), (8, .int (nI j))]) (hP : va_P D classes [(h, .inr (13, mO r th si (nI ln) lv (nI ng) pn pl rs)), (r 3, .inl (cI, 10, .inl tl)), (r 7, .inl (cI, 24, .inl sP)), (r 15, .inl (cI, 1024, .inl se)), (r 20, .inl (cI, 4, .inl ((plX g se sb k mm j).nu))), (r 21, .inl (cI, 4, .inl ((plX g se sb k mm j).pi))), (r 22, .inl (cI, 4, .inl ((plX g se sb k mm j).vs))), (r 23, .inl (cI, 4, .inl ((plX g se sb k mm j).cp))), (r 24, .inl (cI, 4, .inl ((plX g se sb k mm j).sc))), (r 25, .inl (cZ, 4, .inl ((plX g se sb k mm j).aw))), (r 26, .inl (cJ, 4, .inr (.inl ((plX g se sb k mm j).nw)))), (r 27, .inl (cI, 4, .inl ((plX g se sb k mm j).wt))), (r 28, .inl (cI, 16, .inl ((plX g se sb k mm j).ty))), (r 29, .inl (cI, 16, .inl ((plX g se sb k mm j).sp))), (r 30, .inl (cJ, 24, .inr (.inl ((plX g se sb k mm j).z.1)))), (r 31, .inl (cI, 24, .inl ((plX g se sb k mm j).z.2.1))), (r 32, .inl (cZ, 24, .inl ((plX g se sb k mm j).z.2.2.1))), (r 33, .inl (cJ, 24, .inr (.inl ((plX g se sb k mm j).z.2.2.2))))] H) (hD : va_D A [(h, .inr (13, mO r th si (nI ln) lv (nI ng) pn pl rs)), (r 3, .inl (cI, 10, .inl tl)), (r 7, .inl (cI, 24, .inl sP)), (r 15, .inl (cI, 1024, .inl se)), (r 20, .inl (cI, 4, .inl ((plX g se sb k mm j).nu))), (r 21, .inl (cI, 4, .inl ((plX g se sb k mm j).pi))), (r 22, .inl (cI, 4, .inl ((plX g se sb k mm j).vs))), (r 23, .inl (cI, 4, .inl ((plX g se sb k mm j).cp))), (r 24, .inl (cI, 4, .inl ((plX g se sb k mm j).sc))), (r 25, .inl (cZ, 4, .inl ((plX g se sb k mm j).aw))), (r 26, .inl (cJ, 4, .inr (.inl ((plX g se sb k mm j).nw)))), (r 27, .inl (cI, 4, .inl ((plX g se sb k mm j).wt))), (r 28, .inl (cI, 16, .inl ((plX g se sb k mm j).ty))), (r 29, .inl (cI, 16, .inl ((plX g se sb k mm j).sp))), (r 30, .inl (cJ, 24, .inr (.inl ((plX g se sb k mm j).z.1)))), (r 31, .inl (cI, 24, .inl ((plX g se sb k mm j).z.2.1))), (r 32, .inl (cZ, 24, .inl ((plX g se sb k mm j).z.2.2.1))), (r 33, .inl (cJ, 24, .inr (.inl ((plX g se sb k mm j).z.2.2.2))))]) (hS : va_S A s.heap H locs), W p l e ({ frames := 3, cells := 0, slots := 0, locals := 66 }) s m ([.ref h, .int v]).toArray below meth cd H locs 0 0 (MQ below (va_Qv (fun (u : PG × ((Nat → Int32) × (Nat → Int32))) => ((¬ ∃ k9 n9, plC g ng se sb ln v k9 n9) ∧ u = (g, (sP, tl))) ∨ (∃ k9 n9, plC g ng se sb ln v k9 n9 ∧ u = (plX g se sb k9 n9 n9, goU (sP, tl) v 24))) (fun (u : PG × ((Nat → Int32) × (Nat → Int32))) t => zW D (A) [(h, .inr (13, mO r th si (nI ln) lv (nI ng) pn pl rs)), (r 3, .inl (cI, 10, .inl u.2.2)), (r 7, .inl (cI, 24, .inl u.2.1)), (r 15, .inl (cI, 1024, .inl se)), (r 20, .inl (cI, 4, .inl u.1.nu)), (r 21, .inl (cI, 4, .inl u.1.pi)), (r 22, .inl (cI, 4, .inl u.1.vs)), (r 23, .inl (cI, 4, .inl u.1.cp)), (r 24, .inl (cI, 4, .inl u.1.sc)), (r 25, .inl (cZ, 4, .inl u.1.aw)), (r 26, .inl (cJ, 4, .inr (.inl u.1.nw))), (r 27, .inl (cI, 4, .inl u.1.wt)), (r 28, .inl (cI, 16, .inl u.1.ty)), (r 29, .inl (cI, 16, .inl u.1.sp)), (r 30, .inl (cJ, 24, .inr (.inl u.1.z.1))), (r 31, .inl (cI, 24, .inl u.1.z.2.1)), (r 32, .inl (cZ, 24, .inl u.1.z.2.2.1)), (r 33, .inl (cJ, 24, .inr (.inl u.1.z.2.2.2)))] [(cI, .int), (cJ, .long), (cZ, .boolean)] t) (A)) ([.ref h, .int v]).toArray s 0 0 (A)) (F0 m 249 ls []) := by
                            intro N249
                            induction N249 with
                            | zero => intro j H locs ls hm hj hl hP hD hS; exact absurd hm (Nat.not_lt_zero _)
                            | succ N249 ih249 =>
                              intro j H locs ls hm hj hl hP hD hS
                              refine lv_iload hx hb d_Mo_plan0_249 (lv_at hl 5 rfl) ?_
                              refine lv_iload hx hb d_Mo_plan0_251 (lv_at hl 4 rfl) ?_
                              refine lv_icmp_ge (tgt := 350) hx hb d_Mo_plan0_253 rfl (fun h253 => ?_) (fun h253 => ?_)
                              · have h253 := (nI_leI (by omega) (by omega)).mp h253
                                obtain rfl : mm = j := by omega
                                refine lv_aload_n hx hb d_Mo_plan0_350 rfl (lv_at hl 0 rfl) ?_
                                refine lv_iload_n hx hb d_Mo_plan0_351 rfl (lv_at hl 1 rfl) ?_
                                have hPc := hP.sub (ws' := [(h, .inr (13, mO r th si (nI ln) lv (nI ng) pn pl rs)), (r 3, .inl (cI, 10, .inl tl)), (r 7, .inl (cI, 24, .inl sP))]) [0, 1, 2] rfl
                                have hKc := hK.sub (tys' := [(cI, .int)]) [0] rfl
                                have hDc := hD.sub (ws' := [(h, .inr (13, mO r th si (nI ln) lv (nI ng) pn pl rs)), (r 3, .inl (cI, 10, .inl tl)), (r 7, .inl (cI, 24, .inl sP))]) [0, 1, 2] (by decide) rfl
                                have hFc := va_free (wc := [(h, .inr (13, mO r th si (nI ln) lv (nI ng) pn pl rs)), (r 3, .inl (cI, 10, .inl tl)), (r 7, .inl (cI, 24, .inl sP))]) hD hS hA [0, 1, 2] rfl
                                refine va_callv (va_runV (As := [.int v]) (rest := []) ⟨hx, hb, hml, hown, hts⟩ (c_Mo_giveUpOthers l D H.size cI h r th si (nI ln) lv (nI ng) pn pl rs sP tl v ) (z_cV hN wd_1384 wd_67 wd_1381 hd_Mo_giveUpOthers rfl rfl ⟨Nat.le_of_ble_eq_true rfl, Nat.le_of_ble_eq_true rfl⟩ wd_1383 wd_50) (z_preVm (va_recv (ci := 13) (q0 := 0) hK hP rfl rfl) hPc hKc hN hDc) rfl rfl hl.1 rfl (lv_room (Nat.le_of_ble_eq_true rfl)) d_Mo_plan0_352 ⟨Nat.le_of_ble_eq_true rfl, Nat.le_of_ble_eq_true rfl⟩) hS (fun q _ h => hFc q h) hFc (fun z352 t H locs ht hvm e352 hB hz1 hk1 hS => ?_)
                                obtain ⟨hP1, hK1, hD1⟩ := hB
                                rw [ht] at hP1
                                obtain ⟨hP, hD⟩ := va_join (wr := [(r 15, .inl (cI, 1024, .inl se)), (r 20, .inl (cI, 4, .inl ((plX g se sb k mm mm).nu))), (r 21, .inl (cI, 4, .inl ((plX g se sb k mm mm).pi))), (r 22, .inl (cI, 4, .inl ((plX g se sb k mm mm).vs))), (r 23, .inl (cI, 4, .inl ((plX g se sb k mm mm).cp))), (r 24, .inl (cI, 4, .inl ((plX g se sb k mm mm).sc))), (r 25, .inl (cZ, 4, .inl ((plX g se sb k mm mm).aw))), (r 26, .inl (cJ, 4, .inr (.inl ((plX g se sb k mm mm).nw)))), (r 27, .inl (cI, 4, .inl ((plX g se sb k mm mm).wt))), (r 28, .inl (cI, 16, .inl ((plX g se sb k mm mm).ty))), (r 29, .inl (cI, 16, .inl ((plX g se sb k mm mm).sp))), (r 30, .inl (cJ, 24, .inr (.inl ((plX g se sb k mm mm).z.1)))), (r 31, .inl (cI, 24, .inl ((plX g se sb k mm mm).z.2.1))), (r 32, .inl (cZ, 24, .inl ((plX g se sb k mm mm).z.2.2.1))), (r 33, .inl (cJ, 24, .inr (.inl ((plX g se sb k mm mm).z.2.2.2))))]) (w1 := [(h, .inr (13, mO r th si (nI ln) lv (nI ng) pn pl rs)), (r 3, .inl (cI, 10, .inl z352.2)), (r 7, .inl (cI, 24, .inl z352.1))]) hP hD [0, 1, 2] [3, 4, 5, 6, 7, 8, 9, 10, 11, 12, 13, 14, 15, 16, 17] rfl rfl (by decide) (by decide) hk1 hFc hP1 hD1
                                clear hk1 hP1 hD1 hFc hPc hDc hz1
                                have hP : va_P D classes [(r 15, .inl (cI, 1024, .inl se)), (r 20, .inl (cI, 4, .inl ((plX g se sb k mm mm).nu))), (r 21, .inl (cI, 4, .inl ((plX g se sb k mm mm).pi))), (r 22, .inl (cI, 4, .inl ((plX g se sb k mm mm).vs))), (r 23, .inl (cI, 4, .inl ((plX g se sb k mm mm).cp))), (r 24, .inl (cI, 4, .inl ((plX g se sb k mm mm).sc))), (r 25, .inl (cZ, 4, .inl ((plX g se sb k mm mm).aw))), (r 26, .inl (cJ, 4, .inr (.inl ((plX g se sb k mm mm).nw)))), (r 27, .inl (cI, 4, .inl ((plX g se sb k mm mm).wt))), (r 28, .inl (cI, 16, .inl ((plX g se sb k mm mm).ty))), (r 29, .inl (cI, 16, .inl ((plX g se sb k mm mm).sp))), (r 30, .inl (cJ, 24, .inr (.inl ((plX g se sb k mm mm).z.1)))), (r 31, .inl (cI, 24, .inl ((plX g se sb k mm mm).z.2.1))), (r 32, .inl (cZ, 24, .inl ((plX g se sb k mm mm).z.2.2.1))), (r 33, .inl (cJ, 24, .inr (.inl ((plX g se sb k mm mm).z.2.2.2)))), (h, .inr (13, mO r th si (nI ln) lv (nI ng) pn pl rs)), (r 3, .inl (cI, 10, .inl z352.2)), (r 7, .inl (cI, 24, .inl z352.1))] H := hP
                                have hD : va_D A [(r 15, .inl (cI, 1024, .inl se)), (r 20, .inl (cI, 4, .inl ((plX g se sb k mm mm).nu))), (r 21, .inl (cI, 4, .inl ((plX g se sb k mm mm).pi))), (r 22, .inl (cI, 4, .inl ((plX g se sb k mm mm).vs))), (r 23, .inl (cI, 4, .inl ((plX g se sb k mm mm).cp))), (r 24, .inl (cI, 4, .inl ((plX g se sb k mm mm).sc))), (r 25, .inl (cZ, 4, .inl ((plX g se sb k mm mm).aw))), (r 26, .inl (cJ, 4, .inr (.inl ((plX g se sb k mm mm).nw)))), (r 27, .inl (cI, 4, .inl ((plX g se sb k mm mm).wt))), (r 28, .inl (cI, 16, .inl ((plX g se sb k mm mm).ty))), (r 29, .inl (cI, 16, .inl ((plX g se sb k mm mm).sp))), (r 30, .inl (cJ, 24, .inr (.inl ((plX g se sb k mm mm).z.1)))), (r 31, .inl (cI, 24, .inl ((plX g se sb k mm mm).z.2.1))), (r 32, .inl (cZ, 24, .inl ((plX g se sb k mm mm).z.2.2.1))), (r 33, .inl (cJ, 24, .inr (.inl ((plX g se sb k mm mm).z.2.2.2)))), (h, .inr (13, mO r th si (nI ln) lv (nI ng) pn pl rs)), (r 3, .inl (cI, 10, .inl z352.2)), (r 7, .inl (cI, 24, .inl z352.1))] := hD
                                have hP9 := hP.sub (ws' := [(h, .inr (13, mO r th si (nI ln) lv (nI ng) pn pl rs)), (r 3, .inl (cI, 10, .inl z352.2)), (r 7, .inl (cI, 24, .inl z352.1)), (r 15, .inl (cI, 1024, .inl se)), (r 20, .inl (cI, 4, .inl ((plX g se sb k mm mm).nu))), (r 21, .inl (cI, 4, .inl ((plX g se sb k mm mm).pi))), (r 22, .inl (cI, 4, .inl ((plX g se sb k mm mm).vs))), (r 23, .inl (cI, 4, .inl ((plX g se sb k mm mm).cp))), (r 24, .inl (cI, 4, .inl ((plX g se sb k mm mm).sc))), (r 25, .inl (cZ, 4, .inl ((plX g se sb k mm mm).aw))), (r 26, .inl (cJ, 4, .inr (.inl ((plX g se sb k mm mm).nw)))), (r 27, .inl (cI, 4, .inl ((plX g se sb k mm mm).wt))), (r 28, .inl (cI, 16, .inl ((plX g se sb k mm mm).ty))), (r 29, .inl (cI, 16, .inl ((plX g se sb k mm mm).sp))), (r 30, .inl (cJ, 24, .inr (.inl ((plX g se sb k mm mm).z.1)))), (r 31, .inl (cI, 24, .inl ((plX g se sb k mm mm).z.2.1))), (r 32, .inl (cZ, 24, .inl ((plX g se sb k mm mm).z.2.2.1))), (r 33, .inl (cJ, 24, .inr (.inl ((plX g se sb k mm mm).z.2.2.2))))]) [15, 16, 17, 0, 1, 2, 3, 4, 5, 6, 7, 8, 9, 10, 11, 12, 13, 14] rfl
                                have hD9 := hD.sub (ws' := [(h, .inr (13, mO r th si (nI ln) lv (nI ng) pn pl rs)), (r 3, .inl (cI, 10, .inl z352.2)), (r 7, .inl (cI, 24, .inl z352.1)), (r 15, .inl (cI, 1024, .inl se)), (r 20, .inl (cI, 4, .inl ((plX g se sb k mm mm).nu))), (r 21, .inl (cI, 4, .inl ((plX g se sb k mm mm).pi))), (r 22, .inl (cI, 4, .inl ((plX g se sb k mm mm).vs))), (r 23, .inl (cI, 4, .inl ((plX g se sb k mm mm).cp))), (r 24, .inl (cI, 4, .inl ((plX g se sb k mm mm).sc))), (r 25, .inl (cZ, 4, .inl ((plX g se sb k mm mm).aw))), (r 26, .inl (cJ, 4, .inr (.inl ((plX g se sb k mm mm).nw)))), (r 27, .inl (cI, 4, .inl ((plX g se sb k mm mm).wt))), (r 28, .inl (cI, 16, .inl ((plX g se sb k mm mm).ty))), (r 29, .inl (cI, 16, .inl ((plX g se sb k mm mm).sp))), (r 30, .inl (cJ, 24, .inr (.inl ((plX g se sb k mm mm).z.1)))), (r 31, .inl (cI, 24, .inl ((plX g se sb k mm mm).z.2.1))), (r 32, .inl (cZ, 24, .inl ((plX g se sb k mm mm).z.2.2.1))), (r 33, .inl (cJ, 24, .inr (.inl ((plX g se sb k mm mm).z.2.2.2))))]) [15, 16, 17, 0, 1, 2, 3, 4, 5, 6, 7, 8, 9, 10, 11, 12, 13, 14] (by decide) rfl
                                have hK9 := hK.sub (tys' := [(cI, .int), (cJ, .long), (cZ, .boolean)]) [0, 1, 2] rfl
                                exact W.vret hx hb hr (fun t ht hW => ⟨⟨(plX g se sb k mm mm, z352), rfl, Or.inr ⟨k, mm, hpc, by rw [e352]⟩, ⟨by rw [ht]; exact hP9, va_K.moved hW.alike hK9, hD9⟩⟩, hS.F ht⟩) hS.2.2 d_Mo_plan0_355
                              · have h253 := mt (nI_leI (by omega) (by omega)).mpr h253
                                have hj5 := hm5 j (by omega)
                                have hb3 := hse (plA sb j + 3) (by omega)
                                have hb4 := hse (plA sb j + 4) (by omega)
                                refine lv_aload_n hx hb d_Mo_plan0_256 rfl (lv_at hl 0 rfl) ?_
                                refine va_get (D := D) (ci := 13) (v := .ref (r 28)) (C := R_Mo) (T := F_Mo) (N := 54) hx hb hts i_Mo hown hK hP 0 rfl rfl 28 (by decide) (hts _ wd_1116) (fun _ h9 => h9) rfl d_Mo_plan0_257 ?_
                                refine lv_iconst (v := 4) hx hb d_Mo_plan0_260 (by decide) ?_
                                refine lv_iload hx hb d_Mo_plan0_261 (lv_at hl 2 rfl) ?_
                                refine lv_imul hx hb d_Mo_plan0_263 ?_
                                refine z_topi (w := nI (4 * k)) (pk_mul 4 _) ?_
                                refine lv_iload hx hb d_Mo_plan0_264 (lv_at hl 5 rfl) ?_
                                refine lv_iadd hx hb d_Mo_plan0_266 ?_
                                refine z_topi (w := nI (4 * k + j)) (nI_add _ _) ?_
                                refine lv_aload_n hx hb d_Mo_plan0_267 rfl (lv_at hl 0 rfl) ?_
                                refine va_get (D := D) (ci := 13) (v := .ref (r 15)) (C := R_Mo) (T := F_Mo) (N := 54) hx hb hts i_Mo hown hK hP 0 rfl rfl 15 (by decide) (hts _ wd_1103) (fun _ h9 => h9) rfl d_Mo_plan0_268 ?_
                                refine lv_iload hx hb d_Mo_plan0_271 (lv_at hl 3 rfl) ?_
                                refine z_iald hx hb hK hP 3 0 rfl rfl (plA sb j) rfl (by omega) (by omega) d_Mo_plan0_273 ?_
                                refine z_iast hx hb hK hP hD hS 12 0 rfl rfl (4 * k + j) rfl (by omega) (by omega) d_Mo_plan0_274 (fun H locs hP hD hS => ?_)
                                have hP : va_P D classes [(h, .inr (13, mO r th si (nI ln) lv (nI ng) pn pl rs)), (r 3, .inl (cI, 10, .inl tl)), (r 7, .inl (cI, 24, .inl sP)), (r 15, .inl (cI, 1024, .inl se)), (r 20, .inl (cI, 4, .inl ((plX g se sb k mm j).nu))), (r 21, .inl (cI, 4, .inl ((plX g se sb k mm j).pi))), (r 22, .inl (cI, 4, .inl ((plX g se sb k mm j).vs))), (r 23, .inl (cI, 4, .inl ((plX g se sb k mm j).cp))), (r 24, .inl (cI, 4, .inl ((plX g se sb k mm j).sc))), (r 25, .inl (cZ, 4, .inl ((plX g se sb k mm j).aw))), (r 26, .inl (cJ, 4, .inr (.inl ((plX g se sb k mm j).nw)))), (r 27, .inl (cI, 4, .inl ((plX g se sb k mm j).wt))), (r 28, .inl (cI, 16, .inl (upd ((plX g se sb k mm j).ty) (4 * k + j) (se (plA sb j))))), (r 29, .inl (cI, 16, .inl ((plX g se sb k mm j).sp))), (r 30, .inl (cJ, 24, .inr (.inl ((plX g se sb k mm j).z.1)))), (r 31, .inl (cI, 24, .inl ((plX g se sb k mm j).z.2.1))), (r 32, .inl (cZ, 24, .inl ((plX g se sb k mm j).z.2.2.1))), (r 33, .inl (cJ, 24, .inr (.inl ((plX g se sb k mm j).z.2.2.2))))] H := hP
                                have hD : va_D A [(h, .inr (13, mO r th si (nI ln) lv (nI ng) pn pl rs)), (r 3, .inl (cI, 10, .inl tl)), (r 7, .inl (cI, 24, .inl sP)), (r 15, .inl (cI, 1024, .inl se)), (r 20, .inl (cI, 4, .inl ((plX g se sb k mm j).nu))), (r 21, .inl (cI, 4, .inl ((plX g se sb k mm j).pi))), (r 22, .inl (cI, 4, .inl ((plX g se sb k mm j).vs))), (r 23, .inl (cI, 4, .inl ((plX g se sb k mm j).cp))), (r 24, .inl (cI, 4, .inl ((plX g se sb k mm j).sc))), (r 25, .inl (cZ, 4, .inl ((plX g se sb k mm j).aw))), (r 26, .inl (cJ, 4, .inr (.inl ((plX g se sb k mm j).nw)))), (r 27, .inl (cI, 4, .inl ((plX g se sb k mm j).wt))), (r 28, .inl (cI, 16, .inl (upd ((plX g se sb k mm j).ty) (4 * k + j) (se (plA sb j))))), (r 29, .inl (cI, 16, .inl ((plX g se sb k mm j).sp))), (r 30, .inl (cJ, 24, .inr (.inl ((plX g se sb k mm j).z.1)))), (r 31, .inl (cI, 24, .inl ((plX g se sb k mm j).z.2.1))), (r 32, .inl (cZ, 24, .inl ((plX g se sb k mm j).z.2.2.1))), (r 33, .inl (cJ, 24, .inr (.inl ((plX g se sb k mm j).z.2.2.2))))] := hD
                                refine lv_aload_n hx hb d_Mo_plan0_275 rfl (lv_at hl 0 rfl) ?_
                                refine va_get (D := D) (ci := 13) (v := .ref (r 29)) (C := R_Mo) (T := F_Mo) (N := 54) hx hb hts i_Mo hown hK hP 0 rfl rfl 29 (by decide) (hts _ wd_1117) (fun _ h9 => h9) rfl d_Mo_plan0_276 ?_
                                refine lv_iconst (v := 4) hx hb d_Mo_plan0_279 (by decide) ?_
                                refine lv_iload hx hb d_Mo_plan0_280 (lv_at hl 2 rfl) ?_
                                refine lv_imul hx hb d_Mo_plan0_282 ?_
                                refine z_topi (w := nI (4 * k)) (pk_mul 4 _) ?_
                                refine lv_iload hx hb d_Mo_plan0_283 (lv_at hl 5 rfl) ?_
                                refine lv_iadd hx hb d_Mo_plan0_285 ?_
                                refine z_topi (w := nI (4 * k + j)) (nI_add _ _) ?_
                                refine lv_aload_n hx hb d_Mo_plan0_286 rfl (lv_at hl 0 rfl) ?_
                                refine va_get (D := D) (ci := 13) (v := .ref (r 15)) (C := R_Mo) (T := F_Mo) (N := 54) hx hb hts i_Mo hown hK hP 0 rfl rfl 15 (by decide) (hts _ wd_1103) (fun _ h9 => h9) rfl d_Mo_plan0_287 ?_
                                refine lv_iload hx hb d_Mo_plan0_290 (lv_at hl 3 rfl) ?_
                                refine lv_iconst (v := 1) hx hb d_Mo_plan0_292 (by decide) ?_
                                refine lv_iadd hx hb d_Mo_plan0_293 ?_
                                refine z_topi (w := nI (plA sb j + 1)) (nI_1 _) ?_
                                refine z_iald hx hb hK hP 3 0 rfl rfl (plA sb j + 1) rfl (by omega) (by omega) d_Mo_plan0_294 ?_
                                refine lv_bipush (v := 31) hx hb d_Mo_plan0_295 (by decide) ?_
                                refine lv_iand hx hb d_Mo_plan0_297 ?_
                                refine lv_bipush (v := 8) hx hb d_Mo_plan0_298 (by decide) ?_
                                refine lv_ishl hx hb d_Mo_plan0_300 ?_
                                refine lv_aload_n hx hb d_Mo_plan0_301 rfl (lv_at hl 0 rfl) ?_
                                refine va_get (D := D) (ci := 13) (v := .ref (r 15)) (C := R_Mo) (T := F_Mo) (N := 54) hx hb hts i_Mo hown hK hP 0 rfl rfl 15 (by decide) (hts _ wd_1103) (fun _ h9 => h9) rfl d_Mo_plan0_302 ?_
                                refine lv_iload hx hb d_Mo_plan0_305 (lv_at hl 3 rfl) ?_
                                refine lv_iconst (v := 2) hx hb d_Mo_plan0_307 (by decide) ?_
                                refine lv_iadd hx hb d_Mo_plan0_308 ?_
                                refine z_topi (w := nI (plA sb j + 2)) (nI_add _ 2) ?_
                                refine z_iald hx hb hK hP 3 0 rfl rfl (plA sb j + 2) rfl (by omega) (by omega) d_Mo_plan0_309 ?_
                                refine lv_ior hx hb d_Mo_plan0_310 ?_
                                refine z_topi (w := piW se (plA sb j)) rfl ?_
                                refine z_iast hx hb hK hP hD hS 13 0 rfl rfl (4 * k + j) rfl (by omega) (by omega) d_Mo_plan0_311 (fun H locs hP hD hS => ?_)
                                have hP : va_P D classes [(h, .inr (13, mO r th si (nI ln) lv (nI ng) pn pl rs)), (r 3, .inl (cI, 10, .inl tl)), (r 7, .inl (cI, 24, .inl sP)), (r 15, .inl (cI, 1024, .inl se)), (r 20, .inl (cI, 4, .inl ((plX g se sb k mm j).nu))), (r 21, .inl (cI, 4, .inl ((plX g se sb k mm j).pi))), (r 22, .inl (cI, 4, .inl ((plX g se sb k mm j).vs))), (r 23, .inl (cI, 4, .inl ((plX g se sb k mm j).cp))), (r 24, .inl (cI, 4, .inl ((plX g se sb k mm j).sc))), (r 25, .inl (cZ, 4, .inl ((plX g se sb k mm j).aw))), (r 26, .inl (cJ, 4, .inr (.inl ((plX g se sb k mm j).nw)))), (r 27, .inl (cI, 4, .inl ((plX g se sb k mm j).wt))), (r 28, .inl (cI, 16, .inl (upd ((plX g se sb k mm j).ty) (4 * k + j) (se (plA sb j))))), (r 29, .inl (cI, 16, .inl (upd ((plX g se sb k mm j).sp) (4 * k + j) (piW se (plA sb j))))), (r 30, .inl (cJ, 24, .inr (.inl ((plX g se sb k mm j).z.1)))), (r 31, .inl (cI, 24, .inl ((plX g se sb k mm j).z.2.1))), (r 32, .inl (cZ, 24, .inl ((plX g se sb k mm j).z.2.2.1))), (r 33, .inl (cJ, 24, .inr (.inl ((plX g se sb k mm j).z.2.2.2))))] H := hP
                                have hD : va_D A [(h, .inr (13, mO r th si (nI ln) lv (nI ng) pn pl rs)), (r 3, .inl (cI, 10, .inl tl)), (r 7, .inl (cI, 24, .inl sP)), (r 15, .inl (cI, 1024, .inl se)), (r 20, .inl (cI, 4, .inl ((plX g se sb k mm j).nu))), (r 21, .inl (cI, 4, .inl ((plX g se sb k mm j).pi))), (r 22, .inl (cI, 4, .inl ((plX g se sb k mm j).vs))), (r 23, .inl (cI, 4, .inl ((plX g se sb k mm j).cp))), (r 24, .inl (cI, 4, .inl ((plX g se sb k mm j).sc))), (r 25, .inl (cZ, 4, .inl ((plX g se sb k mm j).aw))), (r 26, .inl (cJ, 4, .inr (.inl ((plX g se sb k mm j).nw)))), (r 27, .inl (cI, 4, .inl ((plX g se sb k mm j).wt))), (r 28, .inl (cI, 16, .inl (upd ((plX g se sb k mm j).ty) (4 * k + j) (se (plA sb j))))), (r 29, .inl (cI, 16, .inl (upd ((plX g se sb k mm j).sp) (4 * k + j) (piW se (plA sb j))))), (r 30, .inl (cJ, 24, .inr (.inl ((plX g se sb k mm j).z.1)))), (r 31, .inl (cI, 24, .inl ((plX g se sb k mm j).z.2.1))), (r 32, .inl (cZ, 24, .inl ((plX g se sb k mm j).z.2.2.1))), (r 33, .inl (cJ, 24, .inr (.inl ((plX g se sb k mm j).z.2.2.2))))] := hD
                                refine lv_iload hx hb d_Mo_plan0_312 (lv_at hl 3 rfl) ?_
                                refine lv_iconst (v := 5) hx hb d_Mo_plan0_314 (by decide) ?_
                                refine lv_iadd hx hb d_Mo_plan0_315 ?_
                                refine z_topi (w := nI (plA sb j + 5)) (nI_add _ 5) ?_
                                refine lv_aload_n hx hb d_Mo_plan0_316 rfl (lv_at hl 0 rfl) ?_
                                refine va_get (D := D) (ci := 13) (v := .ref (r 15)) (C := R_Mo) (T := F_Mo) (N := 54) hx hb hts i_Mo hown hK hP 0 rfl rfl 15 (by decide) (hts _ wd_1103) (fun _ h9 => h9) rfl d_Mo_plan0_317 ?_
                                refine lv_iload hx hb d_Mo_plan0_320 (lv_at hl 3 rfl) ?_
                                refine lv_iconst (v := 3) hx hb d_Mo_plan0_322 (by decide) ?_
                                refine lv_iadd hx hb d_Mo_plan0_323 ?_
                                refine z_topi (w := nI (plA sb j + 3)) (nI_add _ 3) ?_
                                refine z_iald hx hb hK hP 3 0 rfl rfl (plA sb j + 3) rfl (by omega) (by omega) d_Mo_plan0_324 ?_
                                refine z_topi (w := nI (sb (plA sb j + 3))) hb3.1 ?_
                                refine lv_bipush (v := 15) hx hb d_Mo_plan0_325 (by decide) ?_
                                refine lv_iand hx hb d_Mo_plan0_327 ?_
                                refine lv_bipush (v := 8) hx hb d_Mo_plan0_328 (by decide) ?_
                                refine lv_ishl hx hb d_Mo_plan0_330 ?_
                                refine lv_aload_n hx hb d_Mo_plan0_331 rfl (lv_at hl 0 rfl) ?_
                                refine va_get (D := D) (ci := 13) (v := .ref (r 15)) (C := R_Mo) (T := F_Mo) (N := 54) hx hb hts i_Mo hown hK hP 0 rfl rfl 15 (by decide) (hts _ wd_1103) (fun _ h9 => h9) rfl d_Mo_plan0_332 ?_
                                refine lv_iload hx hb d_Mo_plan0_335 (lv_at hl 3 rfl) ?_
                                refine lv_iconst (v := 4) hx hb d_Mo_plan0_337 (by decide) ?_
                                refine lv_iadd hx hb d_Mo_plan0_338 ?_
                                refine z_topi (w := nI (plA sb j + 4)) (nI_add _ 4) ?_
                                refine z_iald hx hb hK hP 3 0 rfl rfl (plA sb j + 4) rfl (by omega) (by omega) d_Mo_plan0_339 ?_
                                refine z_topi (w := nI (sb (plA sb j + 4))) hb4.1 ?_
                                refine lv_ior hx hb d_Mo_plan0_340 ?_
                                refine z_topi (w := nI (sb (plA sb j + 3) % 16 * 256 + sb (plA sb j + 4))) (pl_or hb3.2 hb4.2) ?_
                                refine lv_iadd hx hb d_Mo_plan0_341 ?_
                                refine z_topi (w := nI (plA sb (j + 1))) (nI_add _ _) ?_
                                refine lv_istore (lv' := [(6, .int (nI (plA sb (j + 1)))), (0, .ref h), (1, .int v), (4, .int (nI k)), (7, .int (nI mm)), (8, .int (nI j))]) hx hb d_Mo_plan0_342 hl (by decide) rfl (fun ls hl => ?_)
                                refine lv_iinc (k := 5) (v := nI (j + 1)) (lv' := [(8, .int (nI (j + 1))), (6, .int (nI (plA sb (j + 1)))), (0, .ref h), (1, .int v), (4, .int (nI k)), (7, .int (nI mm))]) hx hb d_Mo_plan0_344 hl rfl (nI_1 j) (by decide) rfl (fun ls hl => ?_)
                                refine lv_goto (tgt := 249) hx hb d_Mo_plan0_347 rfl ?_
                                exact ih249 (j + 1) H locs ls (by omega) (by omega) (lv_sub hl [2, 3, 4, 1, 5, 0] rfl) hP hD hS
                          exact loop249 _ 0 H locs ls (Nat.lt_succ_self _) (Nat.zero_le _) (lv_sub hl [2, 3, 5, 1, 7, 0] rfl) hP hD hS
                        · have h193 := mt (nI_leI (b := 4) (by omega) (by omega)).mpr h193
                          have hP9 := hP.sub (ws' := [(h, .inr (13, mO r th si (nI ln) lv (nI ng) pn pl rs)), (r 3, .inl (cI, 10, .inl tl)), (r 7, .inl (cI, 24, .inl sP)), (r 15, .inl (cI, 1024, .inl se)), (r 20, .inl (cI, 4, .inl g.nu)), (r 21, .inl (cI, 4, .inl g.pi)), (r 22, .inl (cI, 4, .inl g.vs)), (r 23, .inl (cI, 4, .inl g.cp)), (r 24, .inl (cI, 4, .inl g.sc)), (r 25, .inl (cZ, 4, .inl g.aw)), (r 26, .inl (cJ, 4, .inr (.inl g.nw))), (r 27, .inl (cI, 4, .inl g.wt)), (r 28, .inl (cI, 16, .inl g.ty)), (r 29, .inl (cI, 16, .inl g.sp)), (r 30, .inl (cJ, 24, .inr (.inl g.z.1))), (r 31, .inl (cI, 24, .inl g.z.2.1)), (r 32, .inl (cZ, 24, .inl g.z.2.2.1)), (r 33, .inl (cJ, 24, .inr (.inl g.z.2.2.2)))]) [0, 1, 2, 3, 4, 5, 6, 7, 8, 9, 10, 11, 12, 13, 14, 15, 16, 17] rfl
                          have hD9 := hD.sub (ws' := [(h, .inr (13, mO r th si (nI ln) lv (nI ng) pn pl rs)), (r 3, .inl (cI, 10, .inl tl)), (r 7, .inl (cI, 24, .inl sP)), (r 15, .inl (cI, 1024, .inl se)), (r 20, .inl (cI, 4, .inl g.nu)), (r 21, .inl (cI, 4, .inl g.pi)), (r 22, .inl (cI, 4, .inl g.vs)), (r 23, .inl (cI, 4, .inl g.cp)), (r 24, .inl (cI, 4, .inl g.sc)), (r 25, .inl (cZ, 4, .inl g.aw)), (r 26, .inl (cJ, 4, .inr (.inl g.nw))), (r 27, .inl (cI, 4, .inl g.wt)), (r 28, .inl (cI, 16, .inl g.ty)), (r 29, .inl (cI, 16, .inl g.sp)), (r 30, .inl (cJ, 24, .inr (.inl g.z.1))), (r 31, .inl (cI, 24, .inl g.z.2.1)), (r 32, .inl (cZ, 24, .inl g.z.2.2.1)), (r 33, .inl (cJ, 24, .inr (.inl g.z.2.2.2)))]) [0, 1, 2, 3, 4, 5, 6, 7, 8, 9, 10, 11, 12, 13, 14, 15, 16, 17] (by decide) rfl
                          have hK9 := hK.sub (tys' := [(cI, .int), (cJ, .long), (cZ, .boolean)]) [0, 1, 2] rfl
                          exact W.vret hx hb hr (fun t ht hW => ⟨⟨(g, (sP, tl)), rfl, Or.inl ⟨fun ⟨k9, n9, hc⟩ => by have hq := pl_n hc (by rw [← haa]; omega) hm5; have h1 := hc.2.2.2.1; have h2 := hc.2.2.2.2.1; rw [hq] at h1 h2; rw [← haa] at h1; omega, rfl⟩, ⟨by rw [ht]; exact hP9, va_K.moved hW.alike hK9, hD9⟩⟩, hS.F ht⟩) hS.2.2 d_Mo_plan0_196
                    · have h140 := mt (nI_ltI (by omega) (by omega)).mpr h140
                      have hb3 := hse (aa + 3) (by omega)
                      have hb4 := hse (aa + 4) (by omega)
                      refine lv_iload hx hb d_Mo_plan0_143 (lv_at hl 5 rfl) ?_
                      refine lv_iconst (v := 5) hx hb d_Mo_plan0_145 (by decide) ?_
                      refine lv_iadd hx hb d_Mo_plan0_146 ?_
                      refine z_topi (w := nI (aa + 5)) (nI_add _ 5) ?_
                      refine lv_aload_n hx hb d_Mo_plan0_147 rfl (lv_at hl 0 rfl) ?_
                      refine va_get (D := D) (ci := 13) (v := .ref (r 15)) (C := R_Mo) (T := F_Mo) (N := 54) hx hb hts i_Mo hown hK hP 0 rfl rfl 15 (by decide) (hts _ wd_1103) (fun _ h9 => h9) rfl d_Mo_plan0_148 ?_
                      refine lv_iload hx hb d_Mo_plan0_151 (lv_at hl 5 rfl) ?_
                      refine lv_iconst (v := 3) hx hb d_Mo_plan0_153 (by decide) ?_
                      refine lv_iadd hx hb d_Mo_plan0_154 ?_
                      refine z_topi (w := nI (aa + 3)) (nI_add _ 3) ?_
                      refine z_iald hx hb hK hP 3 0 rfl rfl (aa + 3) rfl (by omega) (by omega) d_Mo_plan0_155 ?_
                      refine z_topi (w := nI (sb (aa + 3))) hb3.1 ?_
                      refine lv_bipush (v := 15) hx hb d_Mo_plan0_156 (by decide) ?_
                      refine lv_iand hx hb d_Mo_plan0_158 ?_
                      refine lv_bipush (v := 8) hx hb d_Mo_plan0_159 (by decide) ?_
                      refine lv_ishl hx hb d_Mo_plan0_161 ?_
                      refine lv_aload_n hx hb d_Mo_plan0_162 rfl (lv_at hl 0 rfl) ?_
                      refine va_get (D := D) (ci := 13) (v := .ref (r 15)) (C := R_Mo) (T := F_Mo) (N := 54) hx hb hts i_Mo hown hK hP 0 rfl rfl 15 (by decide) (hts _ wd_1103) (fun _ h9 => h9) rfl d_Mo_plan0_163 ?_
                      refine lv_iload hx hb d_Mo_plan0_166 (lv_at hl 5 rfl) ?_
                      refine lv_iconst (v := 4) hx hb d_Mo_plan0_168 (by decide) ?_
                      refine lv_iadd hx hb d_Mo_plan0_169 ?_
                      refine z_topi (w := nI (aa + 4)) (nI_add _ 4) ?_
                      refine z_iald hx hb hK hP 3 0 rfl rfl (aa + 4) rfl (by omega) (by omega) d_Mo_plan0_170 ?_
                      refine z_topi (w := nI (sb (aa + 4))) hb4.1 ?_
                      refine lv_ior hx hb d_Mo_plan0_171 ?_
                      refine z_topi (w := nI (sb (aa + 3) % 16 * 256 + sb (aa + 4))) (pl_or hb3.2 hb4.2) ?_
                      refine lv_iadd hx hb d_Mo_plan0_172 ?_
                      refine z_topi (w := nI (plN sb aa)) (nI_add _ _) ?_
                      refine lv_istore (lv' := [(6, .int (nI (plN sb aa))), (0, .ref h), (1, .int v), (3, .int (vsV se)), (4, .int (nI k)), (5, .int (nI (plA sb 0))), (7, .int (nI mm))]) hx hb d_Mo_plan0_173 hl (by decide) rfl (fun ls hl => ?_)
                      refine lv_iinc (k := 6) (v := nI (mm + 1)) (lv' := [(7, .int (nI (mm + 1))), (6, .int (nI (plN sb aa))), (0, .ref h), (1, .int v), (3, .int (vsV se)), (4, .int (nI k)), (5, .int (nI (plA sb 0)))]) hx hb d_Mo_plan0_175 hl rfl (nI_1 mm) (by decide) rfl (fun ls hl => ?_)
                      refine lv_goto (tgt := 132) hx hb d_Mo_plan0_178 rfl ?_
                      exact ih132 (mm + 1) (plN sb aa) H locs ls (by unfold plN; omega) (by rw [haa]; rfl) (by unfold plN; omega) (by unfold plN; omega) (fun x hx => if c9 : x = mm then by rw [c9, ← haa]; omega else hm5 x (by omega)) (lv_sub hl [2, 3, 4, 5, 6, 1, 0] rfl) hP hD hS
                exact loop132 _ 0 (plA sb 0) H locs ls (Nat.lt_succ_self _) rfl (by show 5 * 0 + 12 ≤ 12 + (sb 10 % 16 * 256 + sb 11); omega) (by show 12 + (sb 10 % 16 * 256 + sb 11) ≤ 6000; omega) (fun x hx => absurd hx (Nat.not_lt_zero x)) (lv_sub hl [3, 4, 6, 7, 2, 1, 0] rfl) hP hD hS
              · have h95 := mt (nI_leI (a := 12) (by omega) (by omega)).mpr h95
                have hP9 := hP.sub (ws' := [(h, .inr (13, mO r th si (nI ln) lv (nI ng) pn pl rs)), (r 3, .inl (cI, 10, .inl tl)), (r 7, .inl (cI, 24, .inl sP)), (r 15, .inl (cI, 1024, .inl se)), (r 20, .inl (cI, 4, .inl g.nu)), (r 21, .inl (cI, 4, .inl g.pi)), (r 22, .inl (cI, 4, .inl g.vs)), (r 23, .inl (cI, 4, .inl g.cp)), (r 24, .inl (cI, 4, .inl g.sc)), (r 25, .inl (cZ, 4, .inl g.aw)), (r 26, .inl (cJ, 4, .inr (.inl g.nw))), (r 27, .inl (cI, 4, .inl g.wt)), (r 28, .inl (cI, 16, .inl g.ty)), (r 29, .inl (cI, 16, .inl g.sp)), (r 30, .inl (cJ, 24, .inr (.inl g.z.1))), (r 31, .inl (cI, 24, .inl g.z.2.1)), (r 32, .inl (cZ, 24, .inl g.z.2.2.1)), (r 33, .inl (cJ, 24, .inr (.inl g.z.2.2.2)))]) [0, 1, 2, 3, 4, 5, 6, 7, 8, 9, 10, 11, 12, 13, 14, 15, 16, 17] rfl
                have hD9 := hD.sub (ws' := [(h, .inr (13, mO r th si (nI ln) lv (nI ng) pn pl rs)), (r 3, .inl (cI, 10, .inl tl)), (r 7, .inl (cI, 24, .inl sP)), (r 15, .inl (cI, 1024, .inl se)), (r 20, .inl (cI, 4, .inl g.nu)), (r 21, .inl (cI, 4, .inl g.pi)), (r 22, .inl (cI, 4, .inl g.vs)), (r 23, .inl (cI, 4, .inl g.cp)), (r 24, .inl (cI, 4, .inl g.sc)), (r 25, .inl (cZ, 4, .inl g.aw)), (r 26, .inl (cJ, 4, .inr (.inl g.nw))), (r 27, .inl (cI, 4, .inl g.wt)), (r 28, .inl (cI, 16, .inl g.ty)), (r 29, .inl (cI, 16, .inl g.sp)), (r 30, .inl (cJ, 24, .inr (.inl g.z.1))), (r 31, .inl (cI, 24, .inl g.z.2.1)), (r 32, .inl (cZ, 24, .inl g.z.2.2.1)), (r 33, .inl (cJ, 24, .inr (.inl g.z.2.2.2)))]) [0, 1, 2, 3, 4, 5, 6, 7, 8, 9, 10, 11, 12, 13, 14, 15, 16, 17] (by decide) rfl
                have hK9 := hK.sub (tys' := [(cI, .int), (cJ, .long), (cZ, .boolean)]) [0, 1, 2] rfl
                exact W.vret hx hb hr (fun t ht hW => ⟨⟨(g, (sP, tl)), rfl, Or.inl ⟨by first | exact fun ⟨k9, n9, hc⟩ => h95 hc.2.2.1 | exact fun ⟨k9, n9, hc⟩ => hc.2.1 (by rw [pl_k hc ⟨h49, h60⟩ hkn]; exact h86) | exact fun ⟨k9, n9, hc⟩ => hkn k9 hc.1.1 hc.1.2.1, rfl⟩, ⟨by rw [ht]; exact hP9, va_K.moved hW.alike hK9, hD9⟩⟩, hS.F ht⟩) hS.2.2 d_Mo_plan0_98
          · refine lv_iinc (k := 4) (v := nI (k + 1)) (lv' := [(4, .int (nI (k + 1))), (0, .ref h), (1, .int v), (2, .int (nuV se 3)), (3, .int (vsV se))]) hx hb d_Mo_plan0_63 hl rfl (nI_1 k) (by decide) rfl (fun ls hl => ?_)
            refine lv_goto (tgt := 32) hx hb d_Mo_plan0_66 rfl ?_
            exact ih32 (k + 1) H locs ls (by omega) (by omega) (fun x hx => if c9 : x = k then by rw [c9]; exact fun z => (by first | exact h49 z.1 | exact h60 z.2) else hkn x (by omega)) (lv_sub hl [1, 2, 3, 4, 0] rfl) hP hD hS
  exact loop32 _ 0 s.heap [] ls (Nat.lt_succ_self _) (Nat.zero_le _) (fun x hx => absurd hx (Nat.not_lt_zero x)) (lv_sub hl [3, 4, 2, 1, 0] rfl) hP hD hS
