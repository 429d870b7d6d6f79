theorem wd_9 : (Jvm.Cond.selects "StreamSplitter$Receiver" ({ cls := "StreamSplitter$Receiver", name := "timeAt", desc := "(I)J" } : Jvm.MethodName) ({ cls := "StreamSplitter$Receiver", name := "timeAt", desc := "(I)J" } : Jvm.MethodName)) ∈ lw_ok := List.mem_filter.mpr ⟨List.mem_of_getElem? (i := 9) (by decide +kernel), rfl⟩
theorem wd_244 : (Jvm.Cond.fieldLinkNest "StreamSplitter$Receiver" (134 : Nat) "StreamSplitter$Lane" "pid" "I" "StreamSplitter") ∈ lw_ok := List.mem_filter.mpr ⟨List.mem_of_getElem? (i := 244) (by decide +kernel), rfl⟩
theorem wd_395 : (Jvm.Cond.methodLink "StreamSplitter$Receiver" (169 : Nat) ({ cls := "StreamSplitter$Receiver", name := "timeAt", desc := "(I)J" } : Jvm.MethodName)) ∈ lw_ok := List.mem_filter.mpr ⟨List.mem_of_getElem? (i := 395) (by decide +kernel), rfl⟩
theorem wd_397 : (Jvm.Cond.instanceMethod ({ cls := "StreamSplitter$Receiver", name := "timeAt", desc := "(I)J" } : Jvm.MethodName)) ∈ lw_ok := List.mem_filter.mpr ⟨List.mem_of_getElem? (i := 397) (by decide +kernel), rfl⟩
set_option maxRecDepth 100000 in
theorem wd_398 : (Jvm.Cond.code ({ cls := "StreamSplitter$Receiver", name := "timeAt", desc := "(I)J" } : Jvm.MethodName) prog_8_method_15_code (3 : Nat) (Option.some Jvm.ClassFile.FieldType.long)) ∈ lw_ok := List.mem_filter.mpr ⟨List.mem_of_getElem? (i := 398) (by rfl), rfl⟩
theorem wd_399 : (Jvm.Cond.constantLong "StreamSplitter$Receiver" (173 : Nat) (-1 : Int64)) ∈ lw_ok := List.mem_filter.mpr ⟨List.mem_of_getElem? (i := 399) (by decide +kernel), rfl⟩
theorem wd_400 : (Jvm.Cond.methodLink "StreamSplitter$Receiver" (176 : Nat) ({ cls := "StreamSplitter$Piece", name := "begin", desc := "(IIJI)V" } : Jvm.MethodName)) ∈ lw_ok := List.mem_filter.mpr ⟨List.mem_of_getElem? (i := 400) (by decide +kernel), rfl⟩
theorem wd_401 : (Jvm.Cond.instanceMethod ({ cls := "StreamSplitter$Piece", name := "begin", desc := "(IIJI)V" } : Jvm.MethodName)) ∈ lw_ok := List.mem_filter.mpr ⟨List.mem_of_getElem? (i := 401) (by decide +kernel), rfl⟩
theorem wd_402 : (Jvm.Cond.selects "StreamSplitter$Piece" ({ cls := "StreamSplitter$Piece", name := "begin", desc := "(IIJI)V" } : Jvm.MethodName) ({ cls := "StreamSplitter$Piece", name := "begin", desc := "(IIJI)V" } : Jvm.MethodName)) ∈ lw_ok := List.mem_filter.mpr ⟨List.mem_of_getElem? (i := 402) (by decide +kernel), rfl⟩
set_option maxRecDepth 100000 in
theorem wd_403 : (Jvm.Cond.code ({ cls := "StreamSplitter$Piece", name := "begin", desc := "(IIJI)V" } : Jvm.MethodName) prog_6_method_2_code (6 : Nat) (Option.none : Option Jvm.ClassFile.FieldType)) ∈ lw_ok := List.mem_filter.mpr ⟨List.mem_of_getElem? (i := 403) (by rfl), rfl⟩
theorem wd_404 : (Jvm.Cond.methodLink "StreamSplitter$Receiver" (180 : Nat) ({ cls := "StreamSplitter$Tables", name := "moveNow", desc := "(IJ)V" } : Jvm.MethodName)) ∈ lw_ok := List.mem_filter.mpr ⟨List.mem_of_getElem? (i := 404) (by decide +kernel), rfl⟩
theorem wd_405 : (Jvm.Cond.instanceMethod ({ cls := "StreamSplitter$Tables", name := "moveNow", desc := "(IJ)V" } : Jvm.MethodName)) ∈ lw_ok := List.mem_filter.mpr ⟨List.mem_of_getElem? (i := 405) (by decide +kernel), rfl⟩
theorem wd_406 : (Jvm.Cond.selects "StreamSplitter$Tables" ({ cls := "StreamSplitter$Tables", name := "moveNow", desc := "(IJ)V" } : Jvm.MethodName) ({ cls := "StreamSplitter$Tables", name := "moveNow", desc := "(IJ)V" } : Jvm.MethodName)) ∈ lw_ok := List.mem_filter.mpr ⟨List.mem_of_getElem? (i := 406) (by decide +kernel), rfl⟩
set_option maxRecDepth 100000 in
theorem wd_407 : (Jvm.Cond.code ({ cls := "StreamSplitter$Tables", name := "moveNow", desc := "(IJ)V" } : Jvm.MethodName) prog_11_method_14_code (5 : Nat) (Option.none : Option Jvm.ClassFile.FieldType)) ∈ lw_ok := List.mem_filter.mpr ⟨List.mem_of_getElem? (i := 407) (by rfl), rfl⟩
theorem hd_Piece_begin : y_Piece_begin.cls ≠ "java/lang/invoke/MethodHandle" ∧ y_Piece_begin.cls ≠ "java/lang/invoke/VarHandle" ∧ (parseMethodDescriptor y_Piece_begin.desc).map (fun d => d.parameters.length) = some 4 := by decide +kernel
theorem hd_Receiver_timeAt : y_Receiver_timeAt.cls ≠ "java/lang/invoke/MethodHandle" ∧ y_Receiver_timeAt.cls ≠ "java/lang/invoke/VarHandle" ∧ (parseMethodDescriptor y_Receiver_timeAt.desc).map (fun d => d.parameters.length) = some 1 := by decide +kernel
theorem hd_Tables_moveNow : y_Tables_moveNow.cls ≠ "java/lang/invoke/MethodHandle" ∧ y_Tables_moveNow.cls ≠ "java/lang/invoke/VarHandle" ∧ (parseMethodDescriptor y_Tables_moveNow.desc).map (fun d => d.parameters.length) = some 2 := by decide +kernel
theorem d_Receiver_beginPiece_0 : decode b_Receiver_beginPiece 0 = .ok (.aload_n 0, 1) := by decide +kernel
theorem d_Receiver_beginPiece_1 : decode b_Receiver_beginPiece 1 = .ok (.getfield 14, 3) := by decide +kernel
theorem d_Receiver_beginPiece_4 : decode b_Receiver_beginPiece 4 = .ok (.iload_n 2, 1) := by decide +kernel
theorem d_Receiver_beginPiece_5 : decode b_Receiver_beginPiece 5 = .ok (.bipush 8, 2) := by decide +kernel
theorem d_Receiver_beginPiece_7 : decode b_Receiver_beginPiece 7 = .ok (.iadd, 1) := by decide +kernel
theorem d_Receiver_beginPiece_8 : decode b_Receiver_beginPiece 8 = .ok (.invokevirtual 44, 3) := by decide +kernel
theorem d_Receiver_beginPiece_11 : decode b_Receiver_beginPiece 11 = .ok (.istore 4, 2) := by decide +kernel
theorem d_Receiver_beginPiece_13 : decode b_Receiver_beginPiece 13 = .ok (.iload_n 2, 1) := by decide +kernel
theorem d_Receiver_beginPiece_14 : decode b_Receiver_beginPiece 14 = .ok (.bipush 9, 2) := by decide +kernel
theorem d_Receiver_beginPiece_16 : decode b_Receiver_beginPiece 16 = .ok (.iadd, 1) := by decide +kernel
theorem d_Receiver_beginPiece_17 : decode b_Receiver_beginPiece 17 = .ok (.iload 4, 2) := by decide +kernel
theorem d_Receiver_beginPiece_19 : decode b_Receiver_beginPiece 19 = .ok (.iadd, 1) := by decide +kernel
theorem d_Receiver_beginPiece_20 : decode b_Receiver_beginPiece 20 = .ok (.istore 5, 2) := by decide +kernel
theorem d_Receiver_beginPiece_22 : decode b_Receiver_beginPiece 22 = .ok (.iload 5, 2) := by decide +kernel
theorem d_Receiver_beginPiece_24 : decode b_Receiver_beginPiece 24 = .ok (.iload_n 3, 1) := by decide +kernel
theorem d_Receiver_beginPiece_25 : decode b_Receiver_beginPiece 25 = .ok (.if_icmp .gt 39, 3) := by decide +kernel
theorem d_Receiver_beginPiece_28 : decode b_Receiver_beginPiece 28 = .ok (.aload_n 0, 1) := by decide +kernel
theorem d_Receiver_beginPiece_29 : decode b_Receiver_beginPiece 29 = .ok (.getfield 14, 3) := by decide +kernel
theorem d_Receiver_beginPiece_32 : decode b_Receiver_beginPiece 32 = .ok (.bipush 8, 2) := by decide +kernel
theorem d_Receiver_beginPiece_34 : decode b_Receiver_beginPiece 34 = .ok (.iload_n 2, 1) := by decide +kernel
theorem d_Receiver_beginPiece_35 : decode b_Receiver_beginPiece 35 = .ok (.imul, 1) := by decide +kernel
theorem d_Receiver_beginPiece_36 : decode b_Receiver_beginPiece 36 = .ok (.bipush 24, 2) := by decide +kernel
theorem d_Receiver_beginPiece_38 : decode b_Receiver_beginPiece 38 = .ok (.invokevirtual 58, 3) := by decide +kernel
theorem d_Receiver_beginPiece_41 : decode b_Receiver_beginPiece 41 = .ok (.lconst 1, 1) := by decide +kernel
theorem d_Receiver_beginPiece_42 : decode b_Receiver_beginPiece 42 = .ok (.lcmp, 1) := by decide +kernel
theorem d_Receiver_beginPiece_43 : decode b_Receiver_beginPiece 43 = .ok (.ifCond .ne 21, 3) := by decide +kernel
theorem d_Receiver_beginPiece_46 : decode b_Receiver_beginPiece 46 = .ok (.aload_n 0, 1) := by decide +kernel
theorem d_Receiver_beginPiece_47 : decode b_Receiver_beginPiece 47 = .ok (.getfield 14, 3) := by decide +kernel
theorem d_Receiver_beginPiece_50 : decode b_Receiver_beginPiece 50 = .ok (.iload_n 2, 1) := by decide +kernel
theorem d_Receiver_beginPiece_51 : decode b_Receiver_beginPiece 51 = .ok (.bipush 6, 2) := by decide +kernel
theorem d_Receiver_beginPiece_53 : decode b_Receiver_beginPiece 53 = .ok (.iadd, 1) := by decide +kernel
theorem d_Receiver_beginPiece_54 : decode b_Receiver_beginPiece 54 = .ok (.invokevirtual 44, 3) := by decide +kernel
theorem d_Receiver_beginPiece_57 : decode b_Receiver_beginPiece 57 = .ok (.bipush 6, 2) := by decide +kernel
theorem d_Receiver_beginPiece_59 : decode b_Receiver_beginPiece 59 = .ok (.ishr, 1) := by decide +kernel
theorem d_Receiver_beginPiece_60 : decode b_Receiver_beginPiece 60 = .ok (.iconst 2, 1) := by decide +kernel
theorem d_Receiver_beginPiece_61 : decode b_Receiver_beginPiece 61 = .ok (.if_icmp .eq 5, 3) := by decide +kernel
theorem d_Receiver_beginPiece_64 : decode b_Receiver_beginPiece 64 = .ok (.iload_n 3, 1) := by decide +kernel
theorem d_Receiver_beginPiece_65 : decode b_Receiver_beginPiece 65 = .ok (.ireturn, 1) := by decide +kernel
theorem d_Receiver_beginPiece_66 : decode b_Receiver_beginPiece 66 = .ok (.aload_n 0, 1) := by decide +kernel
theorem d_Receiver_beginPiece_67 : decode b_Receiver_beginPiece 67 = .ok (.getfield 14, 3) := by decide +kernel
theorem d_Receiver_beginPiece_70 : decode b_Receiver_beginPiece 70 = .ok (.bipush 8, 2) := by decide +kernel
theorem d_Receiver_beginPiece_72 : decode b_Receiver_beginPiece 72 = .ok (.iload_n 2, 1) := by decide +kernel
theorem d_Receiver_beginPiece_73 : decode b_Receiver_beginPiece 73 = .ok (.iconst 4, 1) := by decide +kernel
theorem d_Receiver_beginPiece_74 : decode b_Receiver_beginPiece 74 = .ok (.iadd, 1) := by decide +kernel
theorem d_Receiver_beginPiece_75 : decode b_Receiver_beginPiece 75 = .ok (.imul, 1) := by decide +kernel
theorem d_Receiver_beginPiece_76 : decode b_Receiver_beginPiece 76 = .ok (.bipush 16, 2) := by decide +kernel
theorem d_Receiver_beginPiece_78 : decode b_Receiver_beginPiece 78 = .ok (.invokevirtual 58, 3) := by decide +kernel
theorem d_Receiver_beginPiece_81 : decode b_Receiver_beginPiece 81 = .ok (.l2i, 1) := by decide +kernel
theorem d_Receiver_beginPiece_82 : decode b_Receiver_beginPiece 82 = .ok (.istore 6, 2) := by decide +kernel
theorem d_Receiver_beginPiece_84 : decode b_Receiver_beginPiece 84 = .ok (.iload 6, 2) := by decide +kernel
theorem d_Receiver_beginPiece_86 : decode b_Receiver_beginPiece 86 = .ok (.ifCond .ne 7, 3) := by decide +kernel
theorem d_Receiver_beginPiece_89 : decode b_Receiver_beginPiece 89 = .ok (.iconst (-1), 1) := by decide +kernel
theorem d_Receiver_beginPiece_90 : decode b_Receiver_beginPiece 90 = .ok (.goto 10, 3) := by decide +kernel
theorem d_Receiver_beginPiece_93 : decode b_Receiver_beginPiece 93 = .ok (.iload 6, 2) := by decide +kernel
theorem d_Receiver_beginPiece_95 : decode b_Receiver_beginPiece 95 = .ok (.iconst 3, 1) := by decide +kernel
theorem d_Receiver_beginPiece_96 : decode b_Receiver_beginPiece 96 = .ok (.isub, 1) := by decide +kernel
theorem d_Receiver_beginPiece_97 : decode b_Receiver_beginPiece 97 = .ok (.iload 4, 2) := by decide +kernel
theorem d_Receiver_beginPiece_99 : decode b_Receiver_beginPiece 99 = .ok (.isub, 1) := by decide +kernel
theorem d_Receiver_beginPiece_100 : decode b_Receiver_beginPiece 100 = .ok (.istore 7, 2) := by decide +kernel
theorem d_Receiver_beginPiece_102 : decode b_Receiver_beginPiece 102 = .ok (.iload 6, 2) := by decide +kernel
theorem d_Receiver_beginPiece_104 : decode b_Receiver_beginPiece 104 = .ok (.ifCond .eq 10, 3) := by decide +kernel
theorem d_Receiver_beginPiece_107 : decode b_Receiver_beginPiece 107 = .ok (.iload 7, 2) := by decide +kernel
theorem d_Receiver_beginPiece_109 : decode b_Receiver_beginPiece 109 = .ok (.ifCond .ge 5, 3) := by decide +kernel
theorem d_Receiver_beginPiece_112 : decode b_Receiver_beginPiece 112 = .ok (.iload_n 3, 1) := by decide +kernel
theorem d_Receiver_beginPiece_113 : decode b_Receiver_beginPiece 113 = .ok (.ireturn, 1) := by decide +kernel
theorem d_Receiver_beginPiece_114 : decode b_Receiver_beginPiece 114 = .ok (.aload_n 0, 1) := by decide +kernel
theorem d_Receiver_beginPiece_115 : decode b_Receiver_beginPiece 115 = .ok (.getfield 14, 3) := by decide +kernel
theorem d_Receiver_beginPiece_118 : decode b_Receiver_beginPiece 118 = .ok (.iload_n 2, 1) := by decide +kernel
theorem d_Receiver_beginPiece_119 : decode b_Receiver_beginPiece 119 = .ok (.bipush 7, 2) := by decide +kernel
theorem d_Receiver_beginPiece_121 : decode b_Receiver_beginPiece 121 = .ok (.iadd, 1) := by decide +kernel
theorem d_Receiver_beginPiece_122 : decode b_Receiver_beginPiece 122 = .ok (.invokevirtual 44, 3) := by decide +kernel
theorem d_Receiver_beginPiece_125 : decode b_Receiver_beginPiece 125 = .ok (.bipush 6, 2) := by decide +kernel
theorem d_Receiver_beginPiece_127 : decode b_Receiver_beginPiece 127 = .ok (.ishr, 1) := by decide +kernel
theorem d_Receiver_beginPiece_128 : decode b_Receiver_beginPiece 128 = .ok (.iconst 2, 1) := by decide +kernel
theorem d_Receiver_beginPiece_129 : decode b_Receiver_beginPiece 129 = .ok (.if_icmp .lt 20, 3) := by decide +kernel
theorem d_Receiver_beginPiece_132 : decode b_Receiver_beginPiece 132 = .ok (.iload 4, 2) := by decide +kernel
theorem d_Receiver_beginPiece_134 : decode b_Receiver_beginPiece 134 = .ok (.iconst 5, 1) := by decide +kernel
theorem d_Receiver_beginPiece_135 : decode b_Receiver_beginPiece 135 = .ok (.if_icmp .lt 14, 3) := by decide +kernel
theorem d_Receiver_beginPiece_138 : decode b_Receiver_beginPiece 138 = .ok (.aload_n 0, 1) := by decide +kernel
theorem d_Receiver_beginPiece_139 : decode b_Receiver_beginPiece 139 = .ok (.iload_n 2, 1) := by decide +kernel
theorem d_Receiver_beginPiece_140 : decode b_Receiver_beginPiece 140 = .ok (.bipush 9, 2) := by decide +kernel
theorem d_Receiver_beginPiece_142 : decode b_Receiver_beginPiece 142 = .ok (.iadd, 1) := by decide +kernel
theorem d_Receiver_beginPiece_143 : decode b_Receiver_beginPiece 143 = .ok (.invokevirtual 169, 3) := by decide +kernel
theorem d_Receiver_beginPiece_146 : decode b_Receiver_beginPiece 146 = .ok (.goto 6, 3) := by decide +kernel
theorem d_Receiver_beginPiece_149 : decode b_Receiver_beginPiece 149 = .ok (.ldc2_w 173, 3) := by decide +kernel
theorem d_Receiver_beginPiece_152 : decode b_Receiver_beginPiece 152 = .ok (.lstore 8, 2) := by decide +kernel
theorem d_Receiver_beginPiece_154 : decode b_Receiver_beginPiece 154 = .ok (.aload_n 1, 1) := by decide +kernel
theorem d_Receiver_beginPiece_155 : decode b_Receiver_beginPiece 155 = .ok (.getfield 97, 3) := by decide +kernel
theorem d_Receiver_beginPiece_158 : decode b_Receiver_beginPiece 158 = .ok (.ifnonnull 14, 3) := by decide +kernel
theorem d_Receiver_beginPiece_161 : decode b_Receiver_beginPiece 161 = .ok (.aload_n 1, 1) := by decide +kernel
theorem d_Receiver_beginPiece_162 : decode b_Receiver_beginPiece 162 = .ok (.new 38, 3) := by decide +kernel
theorem d_Receiver_beginPiece_165 : decode b_Receiver_beginPiece 165 = .ok (.dup, 1) := by decide +kernel
theorem d_Receiver_beginPiece_166 : decode b_Receiver_beginPiece 166 = .ok (.invokespecial 175, 3) := by decide +kernel
theorem d_Receiver_beginPiece_169 : decode b_Receiver_beginPiece 169 = .ok (.putfield 97, 3) := by decide +kernel
theorem d_Receiver_beginPiece_172 : decode b_Receiver_beginPiece 172 = .ok (.aload_n 1, 1) := by decide +kernel
theorem d_Receiver_beginPiece_173 : decode b_Receiver_beginPiece 173 = .ok (.getfield 97, 3) := by decide +kernel
theorem d_Receiver_beginPiece_176 : decode b_Receiver_beginPiece 176 = .ok (.aload_n 1, 1) := by decide +kernel
theorem d_Receiver_beginPiece_177 : decode b_Receiver_beginPiece 177 = .ok (.getfield 134, 3) := by decide +kernel
theorem d_Receiver_beginPiece_180 : decode b_Receiver_beginPiece 180 = .ok (.aload_n 0, 1) := by decide +kernel
theorem d_Receiver_beginPiece_181 : decode b_Receiver_beginPiece 181 = .ok (.getfield 14, 3) := by decide +kernel
theorem d_Receiver_beginPiece_184 : decode b_Receiver_beginPiece 184 = .ok (.iload_n 2, 1) := by decide +kernel
theorem d_Receiver_beginPiece_185 : decode b_Receiver_beginPiece 185 = .ok (.iconst 3, 1) := by decide +kernel
theorem d_Receiver_beginPiece_186 : decode b_Receiver_beginPiece 186 = .ok (.iadd, 1) := by decide +kernel
theorem d_Receiver_beginPiece_187 : decode b_Receiver_beginPiece 187 = .ok (.invokevirtual 44, 3) := by decide +kernel
theorem d_Receiver_beginPiece_190 : decode b_Receiver_beginPiece 190 = .ok (.lload 8, 2) := by decide +kernel
theorem d_Receiver_beginPiece_192 : decode b_Receiver_beginPiece 192 = .ok (.iload 7, 2) := by decide +kernel
theorem d_Receiver_beginPiece_194 : decode b_Receiver_beginPiece 194 = .ok (.invokevirtual 176, 3) := by decide +kernel
theorem d_Receiver_beginPiece_197 : decode b_Receiver_beginPiece 197 = .ok (.lload 8, 2) := by decide +kernel
theorem d_Receiver_beginPiece_199 : decode b_Receiver_beginPiece 199 = .ok (.ldc2_w 173, 3) := by decide +kernel
theorem d_Receiver_beginPiece_202 : decode b_Receiver_beginPiece 202 = .ok (.lcmp, 1) := by decide +kernel
theorem d_Receiver_beginPiece_203 : decode b_Receiver_beginPiece 203 = .ok (.ifCond .eq 16, 3) := by decide +kernel
theorem d_Receiver_beginPiece_206 : decode b_Receiver_beginPiece 206 = .ok (.aload_n 0, 1) := by decide +kernel
theorem d_Receiver_beginPiece_207 : decode b_Receiver_beginPiece 207 = .ok (.getfield 30, 3) := by decide +kernel
theorem d_Receiver_beginPiece_210 : decode b_Receiver_beginPiece 210 = .ok (.aload_n 1, 1) := by decide +kernel
theorem d_Receiver_beginPiece_211 : decode b_Receiver_beginPiece 211 = .ok (.getfield 134, 3) := by decide +kernel
theorem d_Receiver_beginPiece_214 : decode b_Receiver_beginPiece 214 = .ok (.lload 8, 2) := by decide +kernel
theorem d_Receiver_beginPiece_216 : decode b_Receiver_beginPiece 216 = .ok (.invokevirtual 180, 3) := by decide +kernel
theorem d_Receiver_beginPiece_219 : decode b_Receiver_beginPiece 219 = .ok (.iload 5, 2) := by decide +kernel
theorem d_Receiver_beginPiece_221 : decode b_Receiver_beginPiece 221 = .ok (.ireturn, 1) := by decide +kernel
set_option maxHeartbeats 16000000 in
set_option maxRecDepth 100000 in
theorem c_Receiver_beginPiece (l : Launch) (D : va_G) (B0 : State) (hG : zG B0) (sz : Nat) (cB : ClassId) (rv tp ln ca dp a n k te : Nat) (f : Nat → Int32) (la pid : Nat) (nx : Option Nat) (ct tw : Int32) (ck : Int64) (wr : Int32) (se : Option SQ9) (pi : Option PQ9) (cO : ClassId) (e0 tb pr : Nat) (lv pmo : Int32) (pst : Option (Nat × (Nat → Option Nat))) (P : List PR9) (Q : va_W) (Im : va_W) (hn : n ≤ 9400) (hk : k ≤ 9600) (hte : te ≤ 9400) (hpid : pid < 8192) (he0 : zE0 B0 e0) (htk : tok Im cO pst P) (hIm : ∀ y ∈ Im, y ∈ Q) : Met l y_Receiver_beginPiece [Cond.code y_Receiver_beginPiece b_Receiver_beginPiece 10 (some .int)] ({ frames := 8, cells := 25, slots := 175, locals := 170 }) (zMo [.ref rv, .ref la, .int (nI k), .int (nI te)] D ([(rv, .inr (4, [.ref tp, .ref ln, .ref tb, .ref ca, .ref dp])), (tp, .inr (0, [.ref a, .int (nI n)])), (a, .inl (cB, 9400, .inl f))] ++ (lzc cB (la, pid, nx, ct, tw, ck, wr, se, pi) ++ (tplr cO e0 tb lv pr P.length pmo pst P ++ Q))) [(cB, .byte), (cO, .object "java/lang/Object")] sz B0) (va_Qi (fun r (u : BU9) => bpP f n k te pid pi P r u ∧ tok (u.2.2 ++ Im) cO pst u.2.1) (fun (u : BU9) t => zW D (va_A ([(rv, .inr (4, [.ref tp, .ref ln, .ref tb, .ref ca, .ref dp])), (tp, .inr (0, [.ref a, .int (nI n)])), (a, .inl (cB, 9400, .inl f))] ++ (lzc cB (la, pid, nx, ct, tw, ck, wr, se, pi) ++ (tplr cO e0 tb lv pr P.length pmo pst P ++ Q))) sz) ([(rv, .inr (4, [.ref tp, .ref ln, .ref tb, .ref ca, .ref dp])), (tp, .inr (0, [.ref a, .int (nI n)])), (a, .inl (cB, 9400, .inl f))] ++ (lzc cB (la, pid, nx, ct, tw, ck, wr, se, u.1) ++ (tplr cO e0 tb lv pr P.length pmo pst u.2.1 ++ (u.2.2 ++ Q)))) [(cB, .byte), (cO, .object "java/lang/Object")] t) (va_A ([(rv, .inr (4, [.ref tp, .ref ln, .ref tb, .ref ca, .ref dp])), (tp, .inr (0, [.ref a, .int (nI n)])), (a, .inl (cB, 9400, .inl f))] ++ (lzc cB (la, pid, nx, ct, tw, ck, wr, se, pi) ++ (tplr cO e0 tb lv pr P.length pmo pst P ++ Q))) sz)) 25 175 (va_A ([(rv, .inr (4, [.ref tp, .ref ln, .ref tb, .ref ca, .ref dp])), (tp, .inr (0, [.ref a, .int (nI n)])), (a, .inl (cB, 9400, .inl f))] ++ (lzc cB (la, pid, nx, ct, tw, ck, wr, se, pi) ++ (tplr cO e0 tb lv pr P.length pmo pst P ++ Q))) sz) := by
  refine Met.ofW (cc := b_Receiver_beginPiece) (maxL := 10) (ret := (some .int)) (by decide) rfl ?_
  intro p e s m args below meth cd s₁ Bd hml hv
  obtain ⟨rfl, hsz, hP, hK, hN, hD0, hO⟩ := hv
  have hx := Bd.exec
  have hb := Bd.bytes
  have hr := Bd.returns
  have hts := hN.use (a := ([.ref rv, .ref la, .int (nI k), .int (nI te)]).toArray)
  have hown : s.vm.findClass R_Receiver = some m.cls := findClass_of_methodNamed Bd.named
  have hlocks := Bd.notSynchronized
  subst hsz
  have hD := hD0.self (sz := s.heap.size)
  have hAO := z_AO hD0 hO
  clear hD0
  have hA : ∀ q : Nat, s.heap.size ≤ q → va_A ([(rv, .inr (4, [.ref tp, .ref ln, .ref tb, .ref ca, .ref dp])), (tp, .inr (0, [.ref a, .int (nI n)])), (a, .inl (cB, 9400, .inl f))] ++ (lzc cB (la, pid, nx, ct, tw, ck, wr, se, pi) ++ (tplr cO e0 tb lv pr P.length pmo pst P ++ Q))) s.heap.size q := fun q h => Or.inr h
  have hS : va_S (va_A ([(rv, .inr (4, [.ref tp, .ref ln, .ref tb, .ref ca, .ref dp])), (tp, .inr (0, [.ref a, .int (nI n)])), (a, .inl (cB, 9400, .inl f))] ++ (lzc cB (la, pid, nx, ct, tw, ck, wr, se, pi) ++ (tplr cO e0 tb lv pr P.length pmo pst P ++ Q))) s.heap.size) s.heap s.heap [] := va_S.rf
  generalize hAe : va_A ([(rv, .inr (4, [.ref tp, .ref ln, .ref tb, .ref ca, .ref dp])), (tp, .inr (0, [.ref a, .int (nI n)])), (a, .inl (cB, 9400, .inl f))] ++ (lzc cB (la, pid, nx, ct, tw, ck, wr, se, pi) ++ (tplr cO e0 tb lv pr P.length pmo pst P ++ Q))) s.heap.size = A at hD hA hS hAO ⊢
  have hP : va_P D classes ([(rv, .inr (4, [.ref tp, .ref ln, .ref tb, .ref ca, .ref dp])), (tp, .inr (0, [.ref a, .int (nI n)])), (a, .inl (cB, 9400, .inl f))] ++ (lzc cB (la, pid, nx, ct, tw, ck, wr, se, pi) ++ (tplr cO e0 tb lv pr P.length pmo pst P ++ Q))) s.heap := hP
  have hl := lv_entry ([.ref rv, .ref la, .int (nI k), .int (nI te)]) (n := 10) (Nat.le_of_ble_eq_true rfl)
  rw [lg_entry_eq]
  generalize (lg_sl ([.ref rv, .ref la, .int (nI k), .int (nI te)]) ++ List.replicate (10 - (lg_sl ([.ref rv, .ref la, .int (nI k), .int (nI te)])).length) Slot.unset).toArray = ls at hl ⊢
  have hl : lv_has ls 10 [(0, .ref rv), (1, .ref la), (2, .int (nI k)), (3, .int (nI te))] := hl
  have hE9 : bpE f n k < 256 := rb_lt _ _ _ _
  have hT9 : bpT f n k < 2 ^ 16 := bN_lt _ _ _ _ _
  have hb7 := rb_lt f n 9400 (k + 7)
  refine lv_aload_n hx hb d_Receiver_beginPiece_0 rfl (lv_at hl 0 rfl) ?_
  refine va_get (D := D) (ci := 4) (v := .ref tp) (C := R_Receiver) (T := F_Receiver) (N := 5) hx hb hts i_Receiver hown hK hP 0 rfl rfl 0 (by decide) (hts _ wd_175) (fun _ h9 => h9) rfl d_Receiver_beginPiece_1 ?_
  refine lv_iload_n hx hb d_Receiver_beginPiece_4 rfl (lv_at hl 2 rfl) ?_
  refine lv_bipush (v := 8) hx hb d_Receiver_beginPiece_5 (by decide) ?_
  refine lv_iadd hx hb d_Receiver_beginPiece_7 ?_
  refine z_topi (w := nI (k + 8)) (nI_add _ 8) ?_
  have hPc := hP.sub (ws' := [(tp, .inr (0, [.ref a, .int (nI n)])), (a, .inl (cB, 9400, .inl f))]) [1, 2] rfl
  have hKc := hK.sub (tys' := [(cB, .byte)]) [0] rfl
  refine z_ci (va_runV (As := [.int (nI (k + 8))]) (rest := []) ⟨hx, hb, hml, hown, hts⟩ (c_Row_at l D cB tp a n 9400 f (nI (k + 8)) (by omega)) (z_cV hN wd_212 wd_61 wd_221 hd_Row_at rfl rfl ⟨Nat.le_of_ble_eq_true rfl, Nat.le_of_ble_eq_true rfl⟩ wd_210 wd_211) (z_preV (va_recv (ci := 0) (q0 := 1) hK hP rfl rfl) hPc hKc hN) rfl rfl hl.1 rfl (lv_room (Nat.le_of_ble_eq_true rfl)) d_Receiver_beginPiece_8 ⟨Nat.le_of_ble_eq_true rfl, Nat.le_of_ble_eq_true rfl⟩) (fun r8 e8 => ?_)
  refine z_topi (w := rw_at f n 9400 (nI (k + 8))) e8 ?_
  refine z_topi (w := nI (rbN f n 9400 (k + 8))) (rb_eq _ _ _ _) ?_
  refine lv_istore (lv' := [(4, .int (nI (rbN f n 9400 (k + 8)))), (0, .ref rv), (1, .ref la), (2, .int (nI k)), (3, .int (nI te))]) hx hb d_Receiver_beginPiece_11 hl (by decide) rfl (fun ls hl => ?_)
  refine lv_iload_n hx hb d_Receiver_beginPiece_13 rfl (lv_at hl 3 rfl) ?_
  refine lv_bipush (v := 9) hx hb d_Receiver_beginPiece_14 (by decide) ?_
  refine lv_iadd hx hb d_Receiver_beginPiece_16 ?_
  refine z_topi (w := nI (k + 9)) (nI_add _ 9) ?_
  refine lv_iload hx hb d_Receiver_beginPiece_17 (lv_at hl 0 rfl) ?_
  refine lv_iadd hx hb d_Receiver_beginPiece_19 ?_
  refine z_topi (w := nI (k + 9 + bpE f n k)) (nI_add _ _) ?_
  refine lv_istore (lv' := [(5, .int (nI (k + 9 + bpE f n k))), (4, .int (nI (rbN f n 9400 (k + 8)))), (0, .ref rv), (1, .ref la), (2, .int (nI k)), (3, .int (nI te))]) hx hb d_Receiver_beginPiece_20 hl (by decide) rfl (fun ls hl => ?_)
  refine lv_iload hx hb d_Receiver_beginPiece_22 (lv_at hl 0 rfl) ?_
  refine lv_iload_n hx hb d_Receiver_beginPiece_24 rfl (lv_at hl 5 rfl) ?_
  refine lv_icmp_gt (tgt := 64) hx hb d_Receiver_beginPiece_25 rfl (fun h25 => ?_) (fun h25 => ?_)
  · have h25 : ¬ k + 9 + bpE f n k ≤ te := by have := (nI_ltI (by omega) (by omega)).mp h25; omega
    refine lv_iload_n hx hb d_Receiver_beginPiece_64 rfl (lv_at hl 5 rfl) ?_
    have hP9 := hP.part (cx := [(rv, .inr (4, [.ref tp, .ref ln, .ref tb, .ref ca, .ref dp])), (tp, .inr (0, [.ref a, .int (nI n)])), (a, .inl (cB, 9400, .inl f))]) [0, 1, 2] rfl
    have hD9 := hD.part (cx := [(rv, .inr (4, [.ref tp, .ref ln, .ref tb, .ref ca, .ref dp])), (tp, .inr (0, [.ref a, .int (nI n)])), (a, .inl (cB, 9400, .inl f))]) [0, 1, 2] (by decide) rfl
    have hK9 := hK.sub (tys' := [(cB, .byte), (cO, .object "java/lang/Object")]) [0, 1] rfl
    refine W.widen (k := 25) (n := 175) (by omega) (by omega) ?_
    exact W.iret (v := (nI te)) hx hb hr (fun t ht hW => ⟨⟨_, (pi, P, []), rfl, ⟨Or.inl ⟨fun z9 => by first | exact h25 z9.1 | exact h43 z9.2.1 | exact h61 z9.2.2.1, rfl, rfl⟩, htk⟩, ⟨by rw [ht]; exact hP9, va_K.moved hW.alike hK9, hD9⟩⟩, hS.F ht⟩) hS.2.2 d_Receiver_beginPiece_65
  · have h25 : k + 9 + bpE f n k ≤ te := by have := mt (nI_ltI (a := te) (by omega) (by omega)).mpr h25; omega
    refine lv_aload_n hx hb d_Receiver_beginPiece_28 rfl (lv_at hl 2 rfl) ?_
    refine va_get (D := D) (ci := 4) (v := .ref tp) (C := R_Receiver) (T := F_Receiver) (N := 5) hx hb hts i_Receiver hown hK hP 0 rfl rfl 0 (by decide) (hts _ wd_175) (fun _ h9 => h9) rfl d_Receiver_beginPiece_29 ?_
    refine lv_bipush (v := 8) hx hb d_Receiver_beginPiece_32 (by decide) ?_
    refine lv_iload_n hx hb d_Receiver_beginPiece_34 rfl (lv_at hl 4 rfl) ?_
    refine lv_imul hx hb d_Receiver_beginPiece_35 ?_
    refine z_topi (w := nI (8 * k)) (pk_mul 8 _) ?_
    refine lv_bipush (v := 24) hx hb d_Receiver_beginPiece_36 (by decide) ?_
    have hPc := hP.sub (ws' := [(tp, .inr (0, [.ref a, .int (nI n)])), (a, .inl (cB, 9400, .inl f))]) [1, 2] rfl
    have hKc := hK.sub (tys' := [(cB, .byte)]) [0] rfl
    refine z_cl (va_runV (As := [.int (nI (8 * k)), .int (nI 24)]) (rest := []) ⟨hx, hb, hml, hown, hts⟩ (c_Row_bits l D cB tp a n 9400 f (8 * k) 24 (by omega) (by omega)) (z_cV hN wd_280 wd_61 wd_277 hd_Row_bits rfl rfl ⟨Nat.le_of_ble_eq_true rfl, Nat.le_of_ble_eq_true rfl⟩ wd_278 wd_279) (z_preV (va_recv (ci := 0) (q0 := 1) hK hP rfl rfl) hPc hKc hN) rfl rfl hl.1 rfl (lv_room (Nat.le_of_ble_eq_true rfl)) d_Receiver_beginPiece_38 ⟨Nat.le_of_ble_eq_true rfl, Nat.le_of_ble_eq_true rfl⟩) (fun r38 e38 => ?_)
    refine z_topl (w := rw_bits f n 9400 (8 * k) 24) e38 ?_
    refine z_topl (w := lN (bN f n 9400 (8 * k) 24)) (bits_eq _ _ _ _ _ (by omega)) ?_
    refine lv_lconst (v := 1) hx hb d_Receiver_beginPiece_41 (by decide) ?_
    refine W.lcmp hx hb d_Receiver_beginPiece_42 ?_
    refine lv_if_ne (tgt := 64) hx hb d_Receiver_beginPiece_43 rfl (fun h43 => ?_) (fun h43 => ?_)
    · have h43 : ¬ bN f n 9400 (8 * k) 24 = 1 := fun q => h43 ((lg_cmp_eq _ _).mpr (by rw [q]; rfl))
      refine lv_iload_n hx hb d_Receiver_beginPiece_64 rfl (lv_at hl 5 rfl) ?_
      have hP9 := hP.part (cx := [(rv, .inr (4, [.ref tp, .ref ln, .ref tb, .ref ca, .ref dp])), (tp, .inr (0, [.ref a, .int (nI n)])), (a, .inl (cB, 9400, .inl f))]) [0, 1, 2] rfl
      have hD9 := hD.part (cx := [(rv, .inr (4, [.ref tp, .ref ln, .ref tb, .ref ca, .ref dp])), (tp, .inr (0, [.ref a, .int (nI n)])), (a, .inl (cB, 9400, .inl f))]) [0, 1, 2] (by decide) rfl
      have hK9 := hK.sub (tys' := [(cB, .byte), (cO, .object "java/lang/Object")]) [0, 1] rfl
      refine W.widen (k := 25) (n := 175) (by omega) (by omega) ?_
      exact W.iret (v := (nI te)) hx hb hr (fun t ht hW => ⟨⟨_, (pi, P, []), rfl, ⟨Or.inl ⟨fun z9 => by first | exact h25 z9.1 | exact h43 z9.2.1 | exact h61 z9.2.2.1, rfl, rfl⟩, htk⟩, ⟨by rw [ht]; exact hP9, va_K.moved hW.alike hK9, hD9⟩⟩, hS.F ht⟩) hS.2.2 d_Receiver_beginPiece_65
    · have h43 : bN f n 9400 (8 * k) 24 = 1 := by have hb9 := bN_lt f n 9400 (8 * k) 24; exact (pk_lEQ (b := 1) (by omega) (by omega)).mp ((lg_cmp_eq _ _).mp (by first | exact h43 | exact Classical.not_not.mp h43))
      refine lv_aload_n hx hb d_Receiver_beginPiece_46 rfl (lv_at hl 2 rfl) ?_
      refine va_get (D := D) (ci := 4) (v := .ref tp) (C := R_Receiver) (T := F_Receiver) (N := 5) hx hb hts i_Receiver hown hK hP 0 rfl rfl 0 (by decide) (hts _ wd_175) (fun _ h9 => h9) rfl d_Receiver_beginPiece_47 ?_
      refine lv_iload_n hx hb d_Receiver_beginPiece_50 rfl (lv_at hl 4 rfl) ?_
      refine lv_bipush (v := 6) hx hb d_Receiver_beginPiece_51 (by decide) ?_
      refine lv_iadd hx hb d_Receiver_beginPiece_53 ?_
      refine z_topi (w := nI (k + 6)) (nI_add _ 6) ?_
      have hPc := hP.sub (ws' := [(tp, .inr (0, [.ref a, .int (nI n)])), (a, .inl (cB, 9400, .inl f))]) [1, 2] rfl
      have hKc := hK.sub (tys' := [(cB, .byte)]) [0] rfl
      refine z_ci (va_runV (As := [.int (nI (k + 6))]) (rest := []) ⟨hx, hb, hml, hown, hts⟩ (c_Row_at l D cB tp a n 9400 f (nI (k + 6)) (by omega)) (z_cV hN wd_212 wd_61 wd_221 hd_Row_at rfl rfl ⟨Nat.le_of_ble_eq_true rfl, Nat.le_of_ble_eq_true rfl⟩ wd_210 wd_211) (z_preV (va_recv (ci := 0) (q0 := 1) hK hP rfl rfl) hPc hKc hN) rfl rfl hl.1 rfl (lv_room (Nat.le_of_ble_eq_true rfl)) d_Receiver_beginPiece_54 ⟨Nat.le_of_ble_eq_true rfl, Nat.le_of_ble_eq_true rfl⟩) (fun r54 e54 => ?_)
      refine z_topi (w := rw_at f n 9400 (nI (k + 6))) e54 ?_
      refine z_topi (w := nI (rbN f n 9400 (k + 6))) (rb_eq _ _ _ _) ?_
      refine lv_bipush (v := 6) hx hb d_Receiver_beginPiece_57 (by decide) ?_
      refine lv_ishr hx hb d_Receiver_beginPiece_59 ?_
      refine z_topi (w := nI (rbN f n 9400 (k + 6) / 64)) (bp_sh6 _ (rb_lt _ _ _ _)) ?_
      refine lv_iconst (v := 2) hx hb d_Receiver_beginPiece_60 (by decide) ?_
      refine lv_icmp_eq (tgt := 66) hx hb d_Receiver_beginPiece_61 rfl (fun h61 => ?_) (fun h61 => ?_)
      · have h61 : rbN f n 9400 (k + 6) / 64 = 2 := (nI_eq (b := 2) (by have := rb_lt f n 9400 (k + 6); omega) (by omega)).mp h61
        refine lv_aload_n hx hb d_Receiver_beginPiece_66 rfl (lv_at hl 2 rfl) ?_
        refine va_get (D := D) (ci := 4) (v := .ref tp) (C := R_Receiver) (T := F_Receiver) (N := 5) hx hb hts i_Receiver hown hK hP 0 rfl rfl 0 (by decide) (hts _ wd_175) (fun _ h9 => h9) rfl d_Receiver_beginPiece_67 ?_
        refine lv_bipush (v := 8) hx hb d_Receiver_beginPiece_70 (by decide) ?_
        refine lv_iload_n hx hb d_Receiver_beginPiece_72 rfl (lv_at hl 4 rfl) ?_
        refine lv_iconst (v := 4) hx hb d_Receiver_beginPiece_73 (by decide) ?_
        refine lv_iadd hx hb d_Receiver_beginPiece_74 ?_
        refine z_topi (w := nI (k + 4)) (nI_add _ 4) ?_
        refine lv_imul hx hb d_Receiver_beginPiece_75 ?_
        refine z_topi (w := nI (8 * (k + 4))) (pk_mul 8 _) ?_
        refine lv_bipush (v := 16) hx hb d_Receiver_beginPiece_76 (by decide) ?_
        have hPc := hP.sub (ws' := [(tp, .inr (0, [.ref a, .int (nI n)])), (a, .inl (cB, 9400, .inl f))]) [1, 2] rfl
        have hKc := hK.sub (tys' := [(cB, .byte)]) [0] rfl
        refine z_cl (va_runV (As := [.int (nI (8 * (k + 4))), .int (nI 16)]) (rest := []) ⟨hx, hb, hml, hown, hts⟩ (c_Row_bits l D cB tp a n 9400 f (8 * (k + 4)) 16 (by omega) (by omega)) (z_cV hN wd_280 wd_61 wd_277 hd_Row_bits rfl rfl ⟨Nat.le_of_ble_eq_true rfl, Nat.le_of_ble_eq_true rfl⟩ wd_278 wd_279) (z_preV (va_recv (ci := 0) (q0 := 1) hK hP rfl rfl) hPc hKc hN) rfl rfl hl.1 rfl (lv_room (Nat.le_of_ble_eq_true rfl)) d_Receiver_beginPiece_78 ⟨Nat.le_of_ble_eq_true rfl, Nat.le_of_ble_eq_true rfl⟩) (fun r78 e78 => ?_)
        refine z_topl (w := rw_bits f n 9400 (8 * (k + 4)) 16) e78 ?_
        refine lv_l2i (v := (rw_bits f n 9400 (8 * (k + 4)) 16).toInt32) hx hb d_Receiver_beginPiece_81 rfl ?_
        refine z_topi (w := nI (bpT f n k)) (bits_i (by omega)) ?_
        refine lv_istore (lv' := [(6, .int (nI (bpT f n k))), (5, .int (nI (k + 9 + bpE f n k))), (4, .int (nI (rbN f n 9400 (k + 8)))), (0, .ref rv), (1, .ref la), (2, .int (nI k)), (3, .int (nI te))]) hx hb d_Receiver_beginPiece_82 hl (by decide) rfl (fun ls hl => ?_)
        refine lv_iload hx hb d_Receiver_beginPiece_84 (lv_at hl 0 rfl) ?_
        suffices key86 : W p l e ({ frames := 8, cells := 25, slots := 175, locals := 170 }) s m ([.ref rv, .ref la, .int (nI k), .int (nI te)]).toArray below meth cd s.heap [] 0 0 (MQ below (va_Qi (fun r (u : BU9) => bpP f n k te pid pi P r u ∧ tok (u.2.2 ++ Im) cO pst u.2.1) (fun (u : BU9) t => zW D (A) ([(rv, .inr (4, [.ref tp, .ref ln, .ref tb, .ref ca, .ref dp])), (tp, .inr (0, [.ref a, .int (nI n)])), (a, .inl (cB, 9400, .inl f))] ++ (lzc cB (la, pid, nx, ct, tw, ck, wr, se, u.1) ++ (tplr cO e0 tb lv pr P.length pmo pst u.2.1 ++ (u.2.2 ++ Q)))) [(cB, .byte), (cO, .object "java/lang/Object")] t) (A)) ([.ref rv, .ref la, .int (nI k), .int (nI te)]).toArray s 25 175 (A)) (F0 m 100 ls [.int (bpU f n k)]) by
          refine lv_if_ne (tgt := 93) hx hb d_Receiver_beginPiece_86 rfl (fun h86 => ?_) (fun h86 => ?_)
          · refine lv_iload hx hb d_Receiver_beginPiece_93 (lv_at hl 0 rfl) ?_
            refine lv_iconst (v := 3) hx hb d_Receiver_beginPiece_95 (by decide) ?_
            refine lv_isub hx hb d_Receiver_beginPiece_96 ?_
            refine lv_iload hx hb d_Receiver_beginPiece_97 (lv_at hl 2 rfl) ?_
            refine lv_isub hx hb d_Receiver_beginPiece_99 ?_
            refine z_topi (w := (bpU f n k)) (by unfold bpU; rw [if_neg (fun q => h86 (by rw [q]; rfl))]; rfl) ?_
            exact key86
          · refine lv_iconst (v := (-1)) hx hb d_Receiver_beginPiece_89 (by decide) ?_
            refine lv_goto (tgt := 100) hx hb d_Receiver_beginPiece_90 rfl ?_
            refine z_topi (w := (bpU f n k)) (by unfold bpU; rw [if_pos ((nI_eq (b := 0) (by omega) (by omega)).mp (by first | exact h86 | exact Classical.not_not.mp h86))]) ?_
            exact key86
        refine lv_istore (lv' := [(7, .int (bpU f n k)), (6, .int (nI (bpT f n k))), (5, .int (nI (k + 9 + bpE f n k))), (4, .int (nI (rbN f n 9400 (k + 8)))), (0, .ref rv), (1, .ref la), (2, .int (nI k)), (3, .int (nI te))]) hx hb d_Receiver_beginPiece_100 hl (by decide) rfl (fun ls hl => ?_)
        refine lv_iload hx hb d_Receiver_beginPiece_102 (lv_at hl 1 rfl) ?_
        refine lv_if_eq (tgt := 114) hx hb d_Receiver_beginPiece_104 rfl (fun h104 => ?_) (fun h104 => ?_)
        · have h104 : bpT f n k = 0 := (nI_eq (b := 0) (by omega) (by omega)).mp h104
          have hokt : bpT f n k = 0 ∨ ¬ bpU f n k < 0 := Or.inl h104
          refine lv_aload_n hx hb d_Receiver_beginPiece_114 rfl (lv_at hl 4 rfl) ?_
          refine va_get (D := D) (ci := 4) (v := .ref tp) (C := R_Receiver) (T := F_Receiver) (N := 5) hx hb hts i_Receiver hown hK hP 0 rfl rfl 0 (by decide) (hts _ wd_175) (fun _ h9 => h9) rfl d_Receiver_beginPiece_115 ?_
          refine lv_iload_n hx hb d_Receiver_beginPiece_118 rfl (lv_at hl 6 rfl) ?_
          refine lv_bipush (v := 7) hx hb d_Receiver_beginPiece_119 (by decide) ?_
          refine lv_iadd hx hb d_Receiver_beginPiece_121 ?_
          refine z_topi (w := nI (k + 7)) (nI_add _ 7) ?_
          have hPc := hP.sub (ws' := [(tp, .inr (0, [.ref a, .int (nI n)])), (a, .inl (cB, 9400, .inl f))]) [1, 2] rfl
          have hKc := hK.sub (tys' := [(cB, .byte)]) [0] rfl
          refine z_ci (va_runV (As := [.int (nI (k + 7))]) (rest := []) ⟨hx, hb, hml, hown, hts⟩ (c_Row_at l D cB tp a n 9400 f (nI (k + 7)) (by omega)) (z_cV hN wd_212 wd_61 wd_221 hd_Row_at rfl rfl ⟨Nat.le_of_ble_eq_true rfl, Nat.le_of_ble_eq_true rfl⟩ wd_210 wd_211) (z_preV (va_recv (ci := 0) (q0 := 1) hK hP rfl rfl) hPc hKc hN) rfl rfl hl.1 rfl (lv_room (Nat.le_of_ble_eq_true rfl)) d_Receiver_beginPiece_122 ⟨Nat.le_of_ble_eq_true rfl, Nat.le_of_ble_eq_true rfl⟩) (fun r122 e122 => ?_)
          refine z_topi (w := rw_at f n 9400 (nI (k + 7))) e122 ?_
          refine z_topi (w := nI (rbN f n 9400 (k + 7))) (rb_eq _ _ _ _) ?_
          refine lv_bipush (v := 6) hx hb d_Receiver_beginPiece_125 (by decide) ?_
          refine lv_ishr hx hb d_Receiver_beginPiece_127 ?_
          refine z_topi (w := nI (rbN f n 9400 (k + 7) / 64)) (bp_sh6 _ (rb_lt _ _ _ _)) ?_
          refine lv_iconst (v := 2) hx hb d_Receiver_beginPiece_128 (by decide) ?_
          suffices key129 : W p l e ({ frames := 8, cells := 25, slots := 175, locals := 170 }) s m ([.ref rv, .ref la, .int (nI k), .int (nI te)]).toArray below meth cd s.heap [] 0 0 (MQ below (va_Qi (fun r (u : BU9) => bpP f n k te pid pi P r u ∧ tok (u.2.2 ++ Im) cO pst u.2.1) (fun (u : BU9) t => zW D (A) ([(rv, .inr (4, [.ref tp, .ref ln, .ref tb, .ref ca, .ref dp])), (tp, .inr (0, [.ref a, .int (nI n)])), (a, .inl (cB, 9400, .inl f))] ++ (lzc cB (la, pid, nx, ct, tw, ck, wr, se, u.1) ++ (tplr cO e0 tb lv pr P.length pmo pst u.2.1 ++ (u.2.2 ++ Q)))) [(cB, .byte), (cO, .object "java/lang/Object")] t) (A)) ([.ref rv, .ref la, .int (nI k), .int (nI te)]).toArray s 25 175 (A)) (F0 m 152 ls [.long (bpZ f n k)]) by
            refine lv_icmp_lt (tgt := 149) hx hb d_Receiver_beginPiece_129 rfl (fun h129 => ?_) (fun h129 => ?_)
            · refine lv_ldc2 hx hb hown (hts _ wd_399) d_Receiver_beginPiece_149 ?_
              refine z_topl (w := (bpZ f n k)) (bz_0 h129) ?_
              exact key129
            · refine lv_iload hx hb d_Receiver_beginPiece_132 (lv_at hl 3 rfl) ?_
              refine lv_iconst (v := 5) hx hb d_Receiver_beginPiece_134 (by decide) ?_
              refine lv_icmp_lt (tgt := 149) hx hb d_Receiver_beginPiece_135 rfl (fun h135 => ?_) (fun h135 => ?_)
              · refine lv_ldc2 hx hb hown (hts _ wd_399) d_Receiver_beginPiece_149 ?_
                refine z_topl (w := (bpZ f n k)) (by first | exact bz_1 h129 h135 | exact bz_2 h135 | (rw [e143]; exact bz_1 h129 h135)) ?_
                exact key129
              · refine lv_aload_n hx hb d_Receiver_beginPiece_138 rfl (lv_at hl 4 rfl) ?_
                refine lv_iload_n hx hb d_Receiver_beginPiece_139 rfl (lv_at hl 6 rfl) ?_
                refine lv_bipush (v := 9) hx hb d_Receiver_beginPiece_140 (by decide) ?_
                refine lv_iadd hx hb d_Receiver_beginPiece_142 ?_
                refine z_topi (w := nI (k + 9)) (nI_add _ 9) ?_
                have hPc := hP.sub (ws' := [(rv, .inr (4, [.ref tp, .ref ln, .ref tb, .ref ca, .ref dp])), (tp, .inr (0, [.ref a, .int (nI n)])), (a, .inl (cB, 9400, .inl f))]) [0, 1, 2] rfl
                have hKc := hK.sub (tys' := [(cB, .byte)]) [0] rfl
                refine z_cl (va_runV (As := [.int (nI (k + 9))]) (rest := []) ⟨hx, hb, hml, hown, hts⟩ (c_Receiver_timeAt l D cB rv tp ln tb ca dp a n 9400 f (k + 9) (by omega) (by omega)) (z_cV hN wd_398 wd_60 wd_395 hd_Receiver_timeAt rfl rfl ⟨Nat.le_of_ble_eq_true rfl, Nat.le_of_ble_eq_true rfl⟩ wd_397 wd_9) (z_preV (va_recv (ci := 4) (q0 := 0) hK hP rfl rfl) hPc hKc hN) rfl rfl hl.1 rfl (lv_room (Nat.le_of_ble_eq_true rfl)) d_Receiver_beginPiece_143 ⟨Nat.le_of_ble_eq_true rfl, Nat.le_of_ble_eq_true rfl⟩) (fun r143 e143 => ?_)
                refine z_topl (w := ((rw_bits f n 9400 (8 * (k + 9) + 4) 3 <<< ((30 : Int32).toInt64 &&& 63)) ||| (rw_bits f n 9400 (8 * (k + 9) + 8) 15 <<< ((15 : Int32).toInt64 &&& 63))) ||| rw_bits f n 9400 (8 * (k + 9) + 24) 15) e143 ?_
                refine lv_goto (tgt := 152) hx hb d_Receiver_beginPiece_146 rfl ?_
                refine z_topl (w := (bpZ f n k)) (by first | exact bz_1 h129 h135 | exact bz_2 h135 | (rw [e143]; exact bz_1 h129 h135)) ?_
                exact key129
          refine lv_lstore (lv' := [(8, .long (bpZ f n k)), (7, .int (bpU f n k)), (6, .int (nI (bpT f n k))), (5, .int (nI (k + 9 + bpE f n k))), (4, .int (nI (rbN f n 9400 (k + 8)))), (0, .ref rv), (1, .ref la), (2, .int (nI k)), (3, .int (nI te))]) hx hb d_Receiver_beginPiece_152 hl (by decide) rfl (fun ls hl => ?_)
          cases se with
          | none =>
            cases pi with
            | none =>
              have hP : va_P D classes ([(rv, .inr (4, [.ref tp, .ref ln, .ref tb, .ref ca, .ref dp])), (tp, .inr (0, [.ref a, .int (nI n)])), (a, .inl (cB, 9400, .inl f)), (la, .inr (1, [.int (nI pid), va_rf nx, .int ct, .int tw, .long ck, .int wr, .null, .null]))] ++ (tplr cO e0 tb lv pr P.length pmo pst P ++ Q)) s.heap := hP
              have hD : va_D A ([(rv, .inr (4, [.ref tp, .ref ln, .ref tb, .ref ca, .ref dp])), (tp, .inr (0, [.ref a, .int (nI n)])), (a, .inl (cB, 9400, .inl f)), (la, .inr (1, [.int (nI pid), va_rf nx, .int ct, .int tw, .long ck, .int wr, .null, .null]))] ++ (tplr cO e0 tb lv pr P.length pmo pst P ++ Q)) := hD
              refine lv_aload_n hx hb d_Receiver_beginPiece_154 rfl (lv_at hl 6 rfl) ?_
              refine va_getN (D := D) (ci := 1) (v := .null) (C := R_Lane) (T := F_Lane) (N := 8) hx hb hts i_Lane hown hK hP 3 rfl rfl 7 (by decide) (hts _ wd_258) (fun _ h9 => h9) rfl d_Receiver_beginPiece_155 ?_
              refine lv_ifnonnullN hx hb d_Receiver_beginPiece_158 ?_
              refine lv_aload_n hx hb d_Receiver_beginPiece_161 rfl (lv_at hl 6 rfl) ?_
              refine va_new (ci := 3) (fs := [.int 0, .int 0, .int 0, .long 0, .int 0, .int 0, .int 0]) (C := R_Piece) (T := F_Piece) (N := 7) hx hb hts i_Piece t_Piece t_Piece_ok hown (hts _ wd_173) (hts _ wd_352) (hts _ wd_77) hK hP hD hS hA rfl (fs_Piece) (by show 0 + 1 ≤ 25; omega) (by show 0 + 7 ≤ 175; omega) d_Receiver_beginPiece_162 (fun q162 H hP hD hS => ?_)
              have hP := hP.swap
              have hD := hD.swap
              have hP : va_P D classes ([(rv, .inr (4, [.ref tp, .ref ln, .ref tb, .ref ca, .ref dp])), (tp, .inr (0, [.ref a, .int (nI n)])), (a, .inl (cB, 9400, .inl f)), (la, .inr (1, [.int (nI pid), va_rf nx, .int ct, .int tw, .long ck, .int wr, .null, .null])), (q162, .inr (3, [.int 0, .int 0, .int 0, .long 0, .int 0, .int 0, .int 0]))] ++ (tplr cO e0 tb lv pr P.length pmo pst P ++ Q)) H := hP
              have hD : va_D A ([(rv, .inr (4, [.ref tp, .ref ln, .ref tb, .ref ca, .ref dp])), (tp, .inr (0, [.ref a, .int (nI n)])), (a, .inl (cB, 9400, .inl f)), (la, .inr (1, [.int (nI pid), va_rf nx, .int ct, .int tw, .long ck, .int wr, .null, .null])), (q162, .inr (3, [.int 0, .int 0, .int 0, .long 0, .int 0, .int 0, .int 0]))] ++ (tplr cO e0 tb lv pr P.length pmo pst P ++ Q)) := hD
              refine lv_dup hx hb d_Receiver_beginPiece_165 rfl ?_
              have hPc := hP.sub (ws' := [(q162, .inr (3, [.int 0, .int 0, .int 0, .long 0, .int 0, .int 0, .int 0]))]) [4] rfl
              have hKc := hK.sub (tys' := []) [] rfl
              have hDc := hD.sub (ws' := [(q162, .inr (3, [.int 0, .int 0, .int 0, .long 0, .int 0, .int 0, .int 0]))]) [4] (by decide) rfl
              have hFc := va_free (wc := [(q162, .inr (3, [.int 0, .int 0, .int 0, .long 0, .int 0, .int 0, .int 0]))]) hD hS hA [4] rfl
              refine va_callv (va_runIN (As := []) (rest := [.ref q162, .ref la]) ⟨hx, hb, hml, hown, hts⟩ (c_Piece_init l D H.size q162 0 0 0 0 0 0 0 ) (z_cIn hN wd_355 wd_77 wd_353 hd_Piece_init rfl rfl ⟨Nat.le_of_ble_eq_true rfl, Nat.le_of_ble_eq_true rfl⟩ wd_354 rfl) (z_preSm hPc hKc hN hDc) rfl rfl hl.1 rfl (lv_room (Nat.le_of_ble_eq_true rfl)) d_Receiver_beginPiece_166 ⟨Nat.le_of_ble_eq_true rfl, Nat.le_of_ble_eq_true rfl⟩) hS (fun q _ h => hFc q h) hFc (fun u166 t H locs ht hvm e166 hB hz1 hk1 hS => ?_)
              obtain ⟨hP1, hK1, hD1⟩ := hB
              rw [ht] at hP1
              obtain ⟨hP, hD⟩ := va_joinQ (cx := [(q162, .inr (3, [.int 0, .int 0, .int 0, .long 0, .int 0, .int 0, .int 0]))]) (wr := [(rv, .inr (4, [.ref tp, .ref ln, .ref tb, .ref ca, .ref dp])), (tp, .inr (0, [.ref a, .int (nI n)])), (a, .inl (cB, 9400, .inl f)), (la, .inr (1, [.int (nI pid), va_rf nx, .int ct, .int tw, .long ck, .int wr, .null, .null]))]) (w1 := [(q162, .inr (3, [.int 0, .int 0, .int 0, .long 0, .int 0, .int 0, .int 0]))]) hP hD [4] [0, 1, 2, 3] rfl rfl (by decide) (by decide) hk1 hFc hP1 hD1
              clear hk1 hP1 hD1 hFc hPc hDc hz1
              have hP : va_P D classes ([(rv, .inr (4, [.ref tp, .ref ln, .ref tb, .ref ca, .ref dp])), (tp, .inr (0, [.ref a, .int (nI n)])), (a, .inl (cB, 9400, .inl f)), (la, .inr (1, [.int (nI pid), va_rf nx, .int ct, .int tw, .long ck, .int wr, .null, .null])), (q162, .inr (3, [.int 0, .int 0, .int 0, .long 0, .int 0, .int 0, .int 0]))] ++ (tplr cO e0 tb lv pr P.length pmo pst P ++ Q)) H := hP
              have hD : va_D A ([(rv, .inr (4, [.ref tp, .ref ln, .ref tb, .ref ca, .ref dp])), (tp, .inr (0, [.ref a, .int (nI n)])), (a, .inl (cB, 9400, .inl f)), (la, .inr (1, [.int (nI pid), va_rf nx, .int ct, .int tw, .long ck, .int wr, .null, .null])), (q162, .inr (3, [.int 0, .int 0, .int 0, .long 0, .int 0, .int 0, .int 0]))] ++ (tplr cO e0 tb lv pr P.length pmo pst P ++ Q)) := hD
              refine va_putN (D := D) (ci := 1) (v := .ref q162) (ty := (.object "StreamSplitter$Piece")) (C := R_Lane) (T := F_Lane) (N := 8) hx hb hts i_Lane t_Lane t_Lane_ok n_Lane hown hK hP hD hS 3 rfl rfl 7 (by decide) (hts _ wd_258) (fun _ h9 => h9) rfl (by decide +kernel) rfl rfl (Nat.le_of_ble_eq_true rfl) d_Receiver_beginPiece_169 (fun H locs hP hD hS => ?_)
              have hP : va_P D classes ([(rv, .inr (4, [.ref tp, .ref ln, .ref tb, .ref ca, .ref dp])), (tp, .inr (0, [.ref a, .int (nI n)])), (a, .inl (cB, 9400, .inl f)), (la, .inr (1, [.int (nI pid), va_rf nx, .int ct, .int tw, .long ck, .int wr, .null, .ref q162])), (q162, .inr (3, [.int 0, .int 0, .int 0, .long 0, .int 0, .int 0, .int 0]))] ++ (tplr cO e0 tb lv pr P.length pmo pst P ++ Q)) H := hP
              have hD : va_D A ([(rv, .inr (4, [.ref tp, .ref ln, .ref tb, .ref ca, .ref dp])), (tp, .inr (0, [.ref a, .int (nI n)])), (a, .inl (cB, 9400, .inl f)), (la, .inr (1, [.int (nI pid), va_rf nx, .int ct, .int tw, .long ck, .int wr, .null, .ref q162])), (q162, .inr (3, [.int 0, .int 0, .int 0, .long 0, .int 0, .int 0, .int 0]))] ++ (tplr cO e0 tb lv pr P.length pmo pst P ++ Q)) := hD
              refine lv_aload_n hx hb d_Receiver_beginPiece_172 rfl (lv_at hl 6 rfl) ?_
              refine va_getN (D := D) (ci := 1) (v := .ref q162) (C := R_Lane) (T := F_Lane) (N := 8) hx hb hts i_Lane hown hK hP 3 rfl rfl 7 (by decide) (hts _ wd_258) (fun _ h9 => h9) rfl d_Receiver_beginPiece_173 ?_
              refine lv_aload_n hx hb d_Receiver_beginPiece_176 rfl (lv_at hl 6 rfl) ?_
              refine va_getN (D := D) (ci := 1) (v := .int (nI pid)) (C := R_Lane) (T := F_Lane) (N := 8) hx hb hts i_Lane hown hK hP 3 rfl rfl 0 (by decide) (hts _ wd_244) (fun _ h9 => h9) rfl d_Receiver_beginPiece_177 ?_
              refine lv_aload_n hx hb d_Receiver_beginPiece_180 rfl (lv_at hl 5 rfl) ?_
              refine va_get (D := D) (ci := 4) (v := .ref tp) (C := R_Receiver) (T := F_Receiver) (N := 5) hx hb hts i_Receiver hown hK hP 0 rfl rfl 0 (by decide) (hts _ wd_175) (fun _ h9 => h9) rfl d_Receiver_beginPiece_181 ?_
              refine lv_iload_n hx hb d_Receiver_beginPiece_184 rfl (lv_at hl 7 rfl) ?_
              refine lv_iconst (v := 3) hx hb d_Receiver_beginPiece_185 (by decide) ?_
              refine lv_iadd hx hb d_Receiver_beginPiece_186 ?_
              refine z_topi (w := nI (k + 3)) (nI_add _ 3) ?_
              have hPc := hP.sub (ws' := [(tp, .inr (0, [.ref a, .int (nI n)])), (a, .inl (cB, 9400, .inl f))]) [1, 2] rfl
              have hKc := hK.sub (tys' := [(cB, .byte)]) [0] rfl
              refine z_ci (va_runV (As := [.int (nI (k + 3))]) (rest := [.int (nI pid), .ref q162]) ⟨hx, hb, hml, hown, hts⟩ (c_Row_at l D cB tp a n 9400 f (nI (k + 3)) (by omega)) (z_cV hN wd_212 wd_61 wd_221 hd_Row_at rfl rfl ⟨Nat.le_of_ble_eq_true rfl, Nat.le_of_ble_eq_true rfl⟩ wd_210 wd_211) (z_preV (va_recv (ci := 0) (q0 := 1) hK hP rfl rfl) hPc hKc hN) rfl rfl hl.1 rfl (lv_room (Nat.le_of_ble_eq_true rfl)) d_Receiver_beginPiece_187 ⟨Nat.le_of_ble_eq_true rfl, Nat.le_of_ble_eq_true rfl⟩) (fun r187 e187 => ?_)
              refine z_topi (w := rw_at f n 9400 (nI (k + 3))) e187 ?_
              refine z_topi (w := nI (rbN f n 9400 (k + 3))) (rb_eq _ _ _ _) ?_
              refine lv_lload hx hb d_Receiver_beginPiece_190 (lv_at hl 0 rfl) ?_
              refine lv_iload hx hb d_Receiver_beginPiece_192 (lv_at hl 1 rfl) ?_
              have hPc := hP.sub (ws' := [(q162, .inr (3, [.int 0, .int 0, .int 0, .long 0, .int 0, .int 0, .int 0]))]) [4] rfl
              have hKc := hK.sub (tys' := []) [] rfl
              have hDc := hD.sub (ws' := [(q162, .inr (3, [.int 0, .int 0, .int 0, .long 0, .int 0, .int 0, .int 0]))]) [4] (by decide) rfl
              have hFc := va_free (wc := [(q162, .inr (3, [.int 0, .int 0, .int 0, .long 0, .int 0, .int 0, .int 0]))]) hD hS hA [4] rfl
              refine va_callv (va_runV (As := [.int (nI pid), .int (nI (rbN f n 9400 (k + 3))), .long (bpZ f n k), .int (bpU f n k)]) (rest := []) ⟨hx, hb, hml, hown, hts⟩ (c_Piece_begin l D H.size q162 0 0 0 0 0 0 0 (nI pid) (nI (rbN f n 9400 (k + 3))) (bpU f n k) (bpZ f n k) ) (z_cV hN wd_403 wd_77 wd_400 hd_Piece_begin rfl rfl ⟨Nat.le_of_ble_eq_true rfl, Nat.le_of_ble_eq_true rfl⟩ wd_401 wd_402) (z_preVm (va_recv (ci := 3) (q0 := 4) hK hP rfl rfl) hPc hKc hN hDc) rfl rfl hl.1 rfl (lv_room (Nat.le_of_ble_eq_true rfl)) d_Receiver_beginPiece_194 ⟨Nat.le_of_ble_eq_true rfl, Nat.le_of_ble_eq_true rfl⟩) hS (fun q _ h => hFc q h) hFc (fun u194 t H locs ht hvm e194 hB hz1 hk1 hS => ?_)
              obtain ⟨hP1, hK1, hD1⟩ := hB
              rw [ht] at hP1
              obtain ⟨hP, hD⟩ := va_joinQ (cx := [(q162, .inr (3, [.int 0, .int 0, .int 0, .long 0, .int 0, .int 0, .int 0]))]) (wr := [(rv, .inr (4, [.ref tp, .ref ln, .ref tb, .ref ca, .ref dp])), (tp, .inr (0, [.ref a, .int (nI n)])), (a, .inl (cB, 9400, .inl f)), (la, .inr (1, [.int (nI pid), va_rf nx, .int ct, .int tw, .long ck, .int wr, .null, .ref q162]))]) (w1 := [(q162, .inr (3, [.int 1, .int (nI pid), .int (nI (rbN f n 9400 (k + 3))), .long (bpZ f n k), .int 0, .int 0, .int (bpU f n k)]))]) hP hD [4] [0, 1, 2, 3] rfl rfl (by decide) (by decide) hk1 hFc hP1 hD1
              clear hk1 hP1 hD1 hFc hPc hDc hz1
              have hP : va_P D classes ([(rv, .inr (4, [.ref tp, .ref ln, .ref tb, .ref ca, .ref dp])), (tp, .inr (0, [.ref a, .int (nI n)])), (a, .inl (cB, 9400, .inl f)), (la, .inr (1, [.int (nI pid), va_rf nx, .int ct, .int tw, .long ck, .int wr, .null, .ref q162])), (q162, .inr (3, [.int 1, .int (nI pid), .int (nI (rbN f n 9400 (k + 3))), .long (bpZ f n k), .int 0, .int 0, .int (bpU f n k)]))] ++ (tplr cO e0 tb lv pr P.length pmo pst P ++ Q)) H := hP
              have hD : va_D A ([(rv, .inr (4, [.ref tp, .ref ln, .ref tb, .ref ca, .ref dp])), (tp, .inr (0, [.ref a, .int (nI n)])), (a, .inl (cB, 9400, .inl f)), (la, .inr (1, [.int (nI pid), va_rf nx, .int ct, .int tw, .long ck, .int wr, .null, .ref q162])), (q162, .inr (3, [.int 1, .int (nI pid), .int (nI (rbN f n 9400 (k + 3))), .long (bpZ f n k), .int 0, .int 0, .int (bpU f n k)]))] ++ (tplr cO e0 tb lv pr P.length pmo pst P ++ Q)) := hD
              refine lv_lload hx hb d_Receiver_beginPiece_197 (lv_at hl 0 rfl) ?_
              refine lv_ldc2 hx hb hown (hts _ wd_399) d_Receiver_beginPiece_199 ?_
              refine W.lcmp hx hb d_Receiver_beginPiece_202 ?_
              refine lv_if_eq (tgt := 219) hx hb d_Receiver_beginPiece_203 rfl (fun h203 => ?_) (fun h203 => ?_)
              · have h203 : bpZ f n k = -1 := (lg_cmp_eq _ _).mp h203
                have hnm : ¬ bpM f n k := fun z9 => by unfold bpZ at h203; rw [if_pos z9] at h203; exact tm_ne _ (tmN_lt _ _ _) h203
                refine lv_iload hx hb d_Receiver_beginPiece_219 (lv_at hl 3 rfl) ?_
                have hP : va_P D classes ([(rv, .inr (4, [.ref tp, .ref ln, .ref tb, .ref ca, .ref dp])), (tp, .inr (0, [.ref a, .int (nI n)])), (a, .inl (cB, 9400, .inl f))] ++ (lzc cB (la, pid, nx, ct, tw, ck, wr, none, some (q162, 1, nI pid, nI (rbN f n 9400 (k + 3)), bpZ f n k, 0, 0, bpU f n k)) ++ (tplr cO e0 tb lv pr P.length pmo pst P ++ ([] ++ Q)))) H := hP
                have hD : va_D A ([(rv, .inr (4, [.ref tp, .ref ln, .ref tb, .ref ca, .ref dp])), (tp, .inr (0, [.ref a, .int (nI n)])), (a, .inl (cB, 9400, .inl f))] ++ (lzc cB (la, pid, nx, ct, tw, ck, wr, none, some (q162, 1, nI pid, nI (rbN f n 9400 (k + 3)), bpZ f n k, 0, 0, bpU f n k)) ++ (tplr cO e0 tb lv pr P.length pmo pst P ++ ([] ++ Q)))) := hD
                have hP9 := hP.part (cx := [(rv, .inr (4, [.ref tp, .ref ln, .ref tb, .ref ca, .ref dp])), (tp, .inr (0, [.ref a, .int (nI n)])), (a, .inl (cB, 9400, .inl f))]) [0, 1, 2] rfl
                have hD9 := hD.part (cx := [(rv, .inr (4, [.ref tp, .ref ln, .ref tb, .ref ca, .ref dp])), (tp, .inr (0, [.ref a, .int (nI n)])), (a, .inl (cB, 9400, .inl f))]) [0, 1, 2] (by decide) rfl
                have hK9 := hK.sub (tys' := [(cB, .byte), (cO, .object "java/lang/Object")]) [0, 1] rfl
                refine W.widen (k := 25) (n := 175) (by omega) (by omega) ?_
                exact W.iret (v := (nI (k + 9 + bpE f n k))) hx hb hr (fun t ht hW => ⟨⟨_, (some (q162, 1, nI pid, nI (rbN f n 9400 (k + 3)), bpZ f n k, 0, 0, bpU f n k), P, []), rfl, ⟨Or.inr ⟨⟨h25, h43, h61, hokt⟩, rfl, (⟨q162, fun q hq => (by cases hq), rfl⟩), Or.inr ⟨hnm, rfl⟩⟩, htk⟩, ⟨by rw [ht]; exact hP9, va_K.moved hW.alike hK9, hD9⟩⟩, hS.F ht⟩) hS.2.2 d_Receiver_beginPiece_221
              · have h203 : ¬ bpZ f n k = -1 := mt (lg_cmp_eq _ _).mpr h203
                have hmm : bpM f n k := by apply Decidable.byContradiction; intro z9; exact h203 (by unfold bpZ; rw [if_neg z9])
                have hzz : bpZ f n k = lN (tmN f n (k + 9)) := by unfold bpZ; rw [if_pos hmm]
                refine lv_aload_n hx hb d_Receiver_beginPiece_206 rfl (lv_at hl 5 rfl) ?_
                refine va_get (D := D) (ci := 4) (v := .ref tb) (C := R_Receiver) (T := F_Receiver) (N := 5) hx hb hts i_Receiver hown hK hP 0 rfl rfl 2 (by decide) (hts _ wd_179) (fun _ h9 => h9) rfl d_Receiver_beginPiece_207 ?_
                refine lv_aload_n hx hb d_Receiver_beginPiece_210 rfl (lv_at hl 6 rfl) ?_
                refine va_getN (D := D) (ci := 1) (v := .int (nI pid)) (C := R_Lane) (T := F_Lane) (N := 8) hx hb hts i_Lane hown hK hP 3 rfl rfl 0 (by decide) (hts _ wd_244) (fun _ h9 => h9) rfl d_Receiver_beginPiece_211 ?_
                refine lv_lload hx hb d_Receiver_beginPiece_214 (lv_at hl 0 rfl) ?_
                obtain ⟨q9, hq9⟩ : ∃ q9 : Nat, ([(rv, .inr (4, [.ref tp, .ref ln, .ref tb, .ref ca, .ref dp])), (tp, .inr (0, [.ref a, .int (nI n)])), (a, .inl (cB, 9400, .inl f)), (la, .inr (1, [.int (nI pid), va_rf nx, .int ct, .int tw, .long ck, .int wr, .null, .ref q162])), (q162, .inr (3, [.int 1, .int (nI pid), .int (nI (rbN f n 9400 (k + 3))), .long (bpZ f n k), .int 0, .int 0, .int (bpU f n k)]))] ++ (tplr cO e0 tb lv pr P.length pmo pst P ++ Q))[q9]? = some (tb, .inr (8, [.int lv, .ref pr])) := ⟨5, rfl⟩
                have hPc := hP.part (cx := []) [] rfl
                have hKc := hK.sub (tys' := [(cO, .object "java/lang/Object")]) [1] rfl
                have hDc := hD.part (cx := []) [] (by decide) rfl
                have hFc := va_freeP (cx := []) hD hS hA [] rfl
                refine va_callv (va_runV (As := [.int (nI pid), .long (bpZ f n k)]) (rest := []) ⟨hx, hb, hml, hown, hts⟩ (c_Tables_moveNow l D B0 hG H.size cO e0 tb pr lv pmo pst P Q pid (bpZ f n k) he0 (tok_mono htk hIm) hpid) (z_cV hN wd_407 wd_63 wd_404 hd_Tables_moveNow rfl rfl ⟨Nat.le_of_ble_eq_true rfl, Nat.le_of_ble_eq_true rfl⟩ wd_405 wd_406) (z_preVo (va_recv (ci := 8) (q0 := q9) hK hP rfl hq9) hPc hKc hN hDc hO hS hAO) rfl rfl hl.1 rfl (lv_room (Nat.le_of_ble_eq_true rfl)) d_Receiver_beginPiece_216 ⟨Nat.le_of_ble_eq_true rfl, Nat.le_of_ble_eq_true rfl⟩) hS (fun q _ h => hFc q h) hFc (fun m9 t H locs ht hvm e216 hB hz1 hk1 hS => ?_)
                obtain ⟨hP1, hK1, hD1⟩ := hB
                rw [ht] at hP1
                obtain ⟨hP, hD⟩ := va_joinP (wr := [(rv, .inr (4, [.ref tp, .ref ln, .ref tb, .ref ca, .ref dp])), (tp, .inr (0, [.ref a, .int (nI n)])), (a, .inl (cB, 9400, .inl f)), (la, .inr (1, [.int (nI pid), va_rf nx, .int ct, .int tw, .long ck, .int wr, .null, .ref q162])), (q162, .inr (3, [.int 1, .int (nI pid), .int (nI (rbN f n 9400 (k + 3))), .long (bpZ f n k), .int 0, .int 0, .int (bpU f n k)]))]) (rx := []) hP hD [] [0, 1, 2, 3, 4] rfl rfl (by decide) (by decide) hk1 hFc hP1 hD1
                clear hk1 hP1 hD1 hFc hPc hDc hz1
                have hP : va_P D classes ([(rv, .inr (4, [.ref tp, .ref ln, .ref tb, .ref ca, .ref dp])), (tp, .inr (0, [.ref a, .int (nI n)])), (a, .inl (cB, 9400, .inl f)), (la, .inr (1, [.int (nI pid), va_rf nx, .int ct, .int tw, .long ck, .int wr, .null, .ref q162])), (q162, .inr (3, [.int 1, .int (nI pid), .int (nI (rbN f n 9400 (k + 3))), .long (bpZ f n k), .int 0, .int 0, .int (bpU f n k)]))] ++ (tplr cO e0 tb lv pr P.length pmo pst m9.1 ++ (m9.2 ++ Q))) H := hP
                have hD : va_D A ([(rv, .inr (4, [.ref tp, .ref ln, .ref tb, .ref ca, .ref dp])), (tp, .inr (0, [.ref a, .int (nI n)])), (a, .inl (cB, 9400, .inl f)), (la, .inr (1, [.int (nI pid), va_rf nx, .int ct, .int tw, .long ck, .int wr, .null, .ref q162])), (q162, .inr (3, [.int 1, .int (nI pid), .int (nI (rbN f n 9400 (k + 3))), .long (bpZ f n k), .int 0, .int 0, .int (bpU f n k)]))] ++ (tplr cO e0 tb lv pr P.length pmo pst m9.1 ++ (m9.2 ++ Q))) := hD
                refine lv_iload hx hb d_Receiver_beginPiece_219 (lv_at hl 3 rfl) ?_
                have hP : va_P D classes ([(rv, .inr (4, [.ref tp, .ref ln, .ref tb, .ref ca, .ref dp])), (tp, .inr (0, [.ref a, .int (nI n)])), (a, .inl (cB, 9400, .inl f))] ++ (lzc cB (la, pid, nx, ct, tw, ck, wr, none, some (q162, 1, nI pid, nI (rbN f n 9400 (k + 3)), bpZ f n k, 0, 0, bpU f n k)) ++ (tplr cO e0 tb lv pr P.length pmo pst m9.1 ++ (m9.2 ++ Q)))) H := hP
                have hD : va_D A ([(rv, .inr (4, [.ref tp, .ref ln, .ref tb, .ref ca, .ref dp])), (tp, .inr (0, [.ref a, .int (nI n)])), (a, .inl (cB, 9400, .inl f))] ++ (lzc cB (la, pid, nx, ct, tw, ck, wr, none, some (q162, 1, nI pid, nI (rbN f n 9400 (k + 3)), bpZ f n k, 0, 0, bpU f n k)) ++ (tplr cO e0 tb lv pr P.length pmo pst m9.1 ++ (m9.2 ++ Q)))) := hD
                have hP9 := hP.part (cx := [(rv, .inr (4, [.ref tp, .ref ln, .ref tb, .ref ca, .ref dp])), (tp, .inr (0, [.ref a, .int (nI n)])), (a, .inl (cB, 9400, .inl f))]) [0, 1, 2] rfl
                have hD9 := hD.part (cx := [(rv, .inr (4, [.ref tp, .ref ln, .ref tb, .ref ca, .ref dp])), (tp, .inr (0, [.ref a, .int (nI n)])), (a, .inl (cB, 9400, .inl f))]) [0, 1, 2] (by decide) rfl
                have hK9 := hK.sub (tys' := [(cB, .byte), (cO, .object "java/lang/Object")]) [0, 1] rfl
                refine W.widen (k := 25) (n := 175) (by omega) (by omega) ?_
                exact W.iret (v := (nI (k + 9 + bpE f n k))) hx hb hr (fun t ht hW => ⟨⟨_, (some (q162, 1, nI pid, nI (rbN f n 9400 (k + 3)), bpZ f n k, 0, 0, bpU f n k), m9.1, m9.2), rfl, ⟨Or.inr ⟨⟨h25, h43, h61, hokt⟩, rfl, (⟨q162, fun q hq => (by cases hq), rfl⟩), Or.inl ⟨hmm, by rw [← hzz]; exact e216.1⟩⟩, mn_tok htk e216.1 e216.2⟩, ⟨by rw [ht]; exact hP9, va_K.moved hW.alike hK9, hD9⟩⟩, hS.F ht⟩) hS.2.2 d_Receiver_beginPiece_221
            | some pq =>
              have hP : va_P D classes ([(rv, .inr (4, [.ref tp, .ref ln, .ref tb, .ref ca, .ref dp])), (tp, .inr (0, [.ref a, .int (nI n)])), (a, .inl (cB, 9400, .inl f)), (la, .inr (1, [.int (nI pid), va_rf nx, .int ct, .int tw, .long ck, .int wr, .null, .ref pq.1])), (pq.1, .inr (3, [.int pq.2.1, .int pq.2.2.1, .int pq.2.2.2.1, .long pq.2.2.2.2.1, .int pq.2.2.2.2.2.1, .int pq.2.2.2.2.2.2.1, .int pq.2.2.2.2.2.2.2]))] ++ (tplr cO e0 tb lv pr P.length pmo pst P ++ Q)) s.heap := hP
              have hD : va_D A ([(rv, .inr (4, [.ref tp, .ref ln, .ref tb, .ref ca, .ref dp])), (tp, .inr (0, [.ref a, .int (nI n)])), (a, .inl (cB, 9400, .inl f)), (la, .inr (1, [.int (nI pid), va_rf nx, .int ct, .int tw, .long ck, .int wr, .null, .ref pq.1])), (pq.1, .inr (3, [.int pq.2.1, .int pq.2.2.1, .int pq.2.2.2.1, .long pq.2.2.2.2.1, .int pq.2.2.2.2.2.1, .int pq.2.2.2.2.2.2.1, .int pq.2.2.2.2.2.2.2]))] ++ (tplr cO e0 tb lv pr P.length pmo pst P ++ Q)) := hD
              refine lv_aload_n hx hb d_Receiver_beginPiece_154 rfl (lv_at hl 6 rfl) ?_
              refine va_getN (D := D) (ci := 1) (v := .ref pq.1) (C := R_Lane) (T := F_Lane) (N := 8) hx hb hts i_Lane hown hK hP 3 rfl rfl 7 (by decide) (hts _ wd_258) (fun _ h9 => h9) rfl d_Receiver_beginPiece_155 ?_
              refine lv_ifnonnull (tgt := 172) hx hb d_Receiver_beginPiece_158 rfl ?_
              refine lv_aload_n hx hb d_Receiver_beginPiece_172 rfl (lv_at hl 6 rfl) ?_
              refine va_getN (D := D) (ci := 1) (v := .ref pq.1) (C := R_Lane) (T := F_Lane) (N := 8) hx hb hts i_Lane hown hK hP 3 rfl rfl 7 (by decide) (hts _ wd_258) (fun _ h9 => h9) rfl d_Receiver_beginPiece_173 ?_
              refine lv_aload_n hx hb d_Receiver_beginPiece_176 rfl (lv_at hl 6 rfl) ?_
              refine va_getN (D := D) (ci := 1) (v := .int (nI pid)) (C := R_Lane) (T := F_Lane) (N := 8) hx hb hts i_Lane hown hK hP 3 rfl rfl 0 (by decide) (hts _ wd_244) (fun _ h9 => h9) rfl d_Receiver_beginPiece_177 ?_
              refine lv_aload_n hx hb d_Receiver_beginPiece_180 rfl (lv_at hl 5 rfl) ?_
              refine va_get (D := D) (ci := 4) (v := .ref tp) (C := R_Receiver) (T := F_Receiver) (N := 5) hx hb hts i_Receiver hown hK hP 0 rfl rfl 0 (by decide) (hts _ wd_175) (fun _ h9 => h9) rfl d_Receiver_beginPiece_181 ?_
              refine lv_iload_n hx hb d_Receiver_beginPiece_184 rfl (lv_at hl 7 rfl) ?_
              refine lv_iconst (v := 3) hx hb d_Receiver_beginPiece_185 (by decide) ?_
              refine lv_iadd hx hb d_Receiver_beginPiece_186 ?_
              refine z_topi (w := nI (k + 3)) (nI_add _ 3) ?_
              have hPc := hP.sub (ws' := [(tp, .inr (0, [.ref a, .int (nI n)])), (a, .inl (cB, 9400, .inl f))]) [1, 2] rfl
              have hKc := hK.sub (tys' := [(cB, .byte)]) [0] rfl
              refine z_ci (va_runV (As := [.int (nI (k + 3))]) (rest := [.int (nI pid), .ref pq.1]) ⟨hx, hb, hml, hown, hts⟩ (c_Row_at l D cB tp a n 9400 f (nI (k + 3)) (by omega)) (z_cV hN wd_212 wd_61 wd_221 hd_Row_at rfl rfl ⟨Nat.le_of_ble_eq_true rfl, Nat.le_of_ble_eq_true rfl⟩ wd_210 wd_211) (z_preV (va_recv (ci := 0) (q0 := 1) hK hP rfl rfl) hPc hKc hN) rfl rfl hl.1 rfl (lv_room (Nat.le_of_ble_eq_true rfl)) d_Receiver_beginPiece_187 ⟨Nat.le_of_ble_eq_true rfl, Nat.le_of_ble_eq_true rfl⟩) (fun r187 e187 => ?_)
              refine z_topi (w := rw_at f n 9400 (nI (k + 3))) e187 ?_
              refine z_topi (w := nI (rbN f n 9400 (k + 3))) (rb_eq _ _ _ _) ?_
              refine lv_lload hx hb d_Receiver_beginPiece_190 (lv_at hl 0 rfl) ?_
              refine lv_iload hx hb d_Receiver_beginPiece_192 (lv_at hl 1 rfl) ?_
              have hPc := hP.sub (ws' := [(pq.1, .inr (3, [.int pq.2.1, .int pq.2.2.1, .int pq.2.2.2.1, .long pq.2.2.2.2.1, .int pq.2.2.2.2.2.1, .int pq.2.2.2.2.2.2.1, .int pq.2.2.2.2.2.2.2]))]) [4] rfl
              have hKc := hK.sub (tys' := []) [] rfl
              have hDc := hD.sub (ws' := [(pq.1, .inr (3, [.int pq.2.1, .int pq.2.2.1, .int pq.2.2.2.1, .long pq.2.2.2.2.1, .int pq.2.2.2.2.2.1, .int pq.2.2.2.2.2.2.1, .int pq.2.2.2.2.2.2.2]))]) [4] (by decide) rfl
              have hFc := va_free (wc := [(pq.1, .inr (3, [.int pq.2.1, .int pq.2.2.1, .int pq.2.2.2.1, .long pq.2.2.2.2.1, .int pq.2.2.2.2.2.1, .int pq.2.2.2.2.2.2.1, .int pq.2.2.2.2.2.2.2]))]) hD hS hA [4] rfl
              refine va_callv (va_runV (As := [.int (nI pid), .int (nI (rbN f n 9400 (k + 3))), .long (bpZ f n k), .int (bpU f n k)]) (rest := []) ⟨hx, hb, hml, hown, hts⟩ (c_Piece_begin l D s.heap.size pq.1 pq.2.1 pq.2.2.1 pq.2.2.2.1 pq.2.2.2.2.2.1 pq.2.2.2.2.2.2.1 pq.2.2.2.2.2.2.2 pq.2.2.2.2.1 (nI pid) (nI (rbN f n 9400 (k + 3))) (bpU f n k) (bpZ f n k) ) (z_cV hN wd_403 wd_77 wd_400 hd_Piece_begin rfl rfl ⟨Nat.le_of_ble_eq_true rfl, Nat.le_of_ble_eq_true rfl⟩ wd_401 wd_402) (z_preVm (va_recv (ci := 3) (q0 := 4) hK hP rfl rfl) hPc hKc hN hDc) rfl rfl hl.1 rfl (lv_room (Nat.le_of_ble_eq_true rfl)) d_Receiver_beginPiece_194 ⟨Nat.le_of_ble_eq_true rfl, Nat.le_of_ble_eq_true rfl⟩) hS (fun q _ h => hFc q h) hFc (fun u194 t H locs ht hvm e194 hB hz1 hk1 hS => ?_)
              obtain ⟨hP1, hK1, hD1⟩ := hB
              rw [ht] at hP1
              obtain ⟨hP, hD⟩ := va_joinQ (cx := [(pq.1, .inr (3, [.int pq.2.1, .int pq.2.2.1, .int pq.2.2.2.1, .long pq.2.2.2.2.1, .int pq.2.2.2.2.2.1, .int pq.2.2.2.2.2.2.1, .int pq.2.2.2.2.2.2.2]))]) (wr := [(rv, .inr (4, [.ref tp, .ref ln, .ref tb, .ref ca, .ref dp])), (tp, .inr (0, [.ref a, .int (nI n)])), (a, .inl (cB, 9400, .inl f)), (la, .inr (1, [.int (nI pid), va_rf nx, .int ct, .int tw, .long ck, .int wr, .null, .ref pq.1]))]) (w1 := [(pq.1, .inr (3, [.int 1, .int (nI pid), .int (nI (rbN f n 9400 (k + 3))), .long (bpZ f n k), .int 0, .int 0, .int (bpU f n k)]))]) hP hD [4] [0, 1, 2, 3] rfl rfl (by decide) (by decide) hk1 hFc hP1 hD1
              clear hk1 hP1 hD1 hFc hPc hDc hz1
              have hP : va_P D classes ([(rv, .inr (4, [.ref tp, .ref ln, .ref tb, .ref ca, .ref dp])), (tp, .inr (0, [.ref a, .int (nI n)])), (a, .inl (cB, 9400, .inl f)), (la, .inr (1, [.int (nI pid), va_rf nx, .int ct, .int tw, .long ck, .int wr, .null, .ref pq.1])), (pq.1, .inr (3, [.int 1, .int (nI pid), .int (nI (rbN f n 9400 (k + 3))), .long (bpZ f n k), .int 0, .int 0, .int (bpU f n k)]))] ++ (tplr cO e0 tb lv pr P.length pmo pst P ++ Q)) H := hP
              have hD : va_D A ([(rv, .inr (4, [.ref tp, .ref ln, .ref tb, .ref ca, .ref dp])), (tp, .inr (0, [.ref a, .int (nI n)])), (a, .inl (cB, 9400, .inl f)), (la, .inr (1, [.int (nI pid), va_rf nx, .int ct, .int tw, .long ck, .int wr, .null, .ref pq.1])), (pq.1, .inr (3, [.int 1, .int (nI pid), .int (nI (rbN f n 9400 (k + 3))), .long (bpZ f n k), .int 0, .int 0, .int (bpU f n k)]))] ++ (tplr cO e0 tb lv pr P.length pmo pst P ++ Q)) := hD
              refine lv_lload hx hb d_Receiver_beginPiece_197 (lv_at hl 0 rfl) ?_
              refine lv_ldc2 hx hb hown (hts _ wd_399) d_Receiver_beginPiece_199 ?_
              refine W.lcmp hx hb d_Receiver_beginPiece_202 ?_
              refine lv_if_eq (tgt := 219) hx hb d_Receiver_beginPiece_203 rfl (fun h203 => ?_) (fun h203 => ?_)
              · have h203 : bpZ f n k = -1 := (lg_cmp_eq _ _).mp h203
                have hnm : ¬ bpM f n k := fun z9 => by unfold bpZ at h203; rw [if_pos z9] at h203; exact tm_ne _ (tmN_lt _ _ _) h203
                refine lv_iload hx hb d_Receiver_beginPiece_219 (lv_at hl 3 rfl) ?_
                have hP : va_P D classes ([(rv, .inr (4, [.ref tp, .ref ln, .ref tb, .ref ca, .ref dp])), (tp, .inr (0, [.ref a, .int (nI n)])), (a, .inl (cB, 9400, .inl f))] ++ (lzc cB (la, pid, nx, ct, tw, ck, wr, none, some (pq.1, 1, nI pid, nI (rbN f n 9400 (k + 3)), bpZ f n k, 0, 0, bpU f n k)) ++ (tplr cO e0 tb lv pr P.length pmo pst P ++ ([] ++ Q)))) H := hP
                have hD : va_D A ([(rv, .inr (4, [.ref tp, .ref ln, .ref tb, .ref ca, .ref dp])), (tp, .inr (0, [.ref a, .int (nI n)])), (a, .inl (cB, 9400, .inl f))] ++ (lzc cB (la, pid, nx, ct, tw, ck, wr, none, some (pq.1, 1, nI pid, nI (rbN f n 9400 (k + 3)), bpZ f n k, 0, 0, bpU f n k)) ++ (tplr cO e0 tb lv pr P.length pmo pst P ++ ([] ++ Q)))) := hD
                have hP9 := hP.part (cx := [(rv, .inr (4, [.ref tp, .ref ln, .ref tb, .ref ca, .ref dp])), (tp, .inr (0, [.ref a, .int (nI n)])), (a, .inl (cB, 9400, .inl f))]) [0, 1, 2] rfl
                have hD9 := hD.part (cx := [(rv, .inr (4, [.ref tp, .ref ln, .ref tb, .ref ca, .ref dp])), (tp, .inr (0, [.ref a, .int (nI n)])), (a, .inl (cB, 9400, .inl f))]) [0, 1, 2] (by decide) rfl
                have hK9 := hK.sub (tys' := [(cB, .byte), (cO, .object "java/lang/Object")]) [0, 1] rfl
                refine W.widen (k := 25) (n := 175) (by omega) (by omega) ?_
                exact W.iret (v := (nI (k + 9 + bpE f n k))) hx hb hr (fun t ht hW => ⟨⟨_, (some (pq.1, 1, nI pid, nI (rbN f n 9400 (k + 3)), bpZ f n k, 0, 0, bpU f n k), P, []), rfl, ⟨Or.inr ⟨⟨h25, h43, h61, hokt⟩, rfl, (⟨pq.1, fun q hq => (by cases hq; rfl), rfl⟩), Or.inr ⟨hnm, rfl⟩⟩, htk⟩, ⟨by rw [ht]; exact hP9, va_K.moved hW.alike hK9, hD9⟩⟩, hS.F ht⟩) hS.2.2 d_Receiver_beginPiece_221
              · have h203 : ¬ bpZ f n k = -1 := mt (lg_cmp_eq _ _).mpr h203
                have hmm : bpM f n k := by apply Decidable.byContradiction; intro z9; exact h203 (by unfold bpZ; rw [if_neg z9])
                have hzz : bpZ f n k = lN (tmN f n (k + 9)) := by unfold bpZ; rw [if_pos hmm]
                refine lv_aload_n hx hb d_Receiver_beginPiece_206 rfl (lv_at hl 5 rfl) ?_
                refine va_get (D := D) (ci := 4) (v := .ref tb) (C := R_Receiver) (T := F_Receiver) (N := 5) hx hb hts i_Receiver hown hK hP 0 rfl rfl 2 (by decide) (hts _ wd_179) (fun _ h9 => h9) rfl d_Receiver_beginPiece_207 ?_
                refine lv_aload_n hx hb d_Receiver_beginPiece_210 rfl (lv_at hl 6 rfl) ?_
                refine va_getN (D := D) (ci := 1) (v := .int (nI pid)) (C := R_Lane) (T := F_Lane) (N := 8) hx hb hts i_Lane hown hK hP 3 rfl rfl 0 (by decide) (hts _ wd_244) (fun _ h9 => h9) rfl d_Receiver_beginPiece_211 ?_
                refine lv_lload hx hb d_Receiver_beginPiece_214 (lv_at hl 0 rfl) ?_
                obtain ⟨q9, hq9⟩ : ∃ q9 : Nat, ([(rv, .inr (4, [.ref tp, .ref ln, .ref tb, .ref ca, .ref dp])), (tp, .inr (0, [.ref a, .int (nI n)])), (a, .inl (cB, 9400, .inl f)), (la, .inr (1, [.int (nI pid), va_rf nx, .int ct, .int tw, .long ck, .int wr, .null, .ref pq.1])), (pq.1, .inr (3, [.int 1, .int (nI pid), .int (nI (rbN f n 9400 (k + 3))), .long (bpZ f n k), .int 0, .int 0, .int (bpU f n k)]))] ++ (tplr cO e0 tb lv pr P.length pmo pst P ++ Q))[q9]? = some (tb, .inr (8, [.int lv, .ref pr])) := ⟨5, rfl⟩
                have hPc := hP.part (cx := []) [] rfl
                have hKc := hK.sub (tys' := [(cO, .object "java/lang/Object")]) [1] rfl
                have hDc := hD.part (cx := []) [] (by decide) rfl
                have hFc := va_freeP (cx := []) hD hS hA [] rfl
                refine va_callv (va_runV (As := [.int (nI pid), .long (bpZ f n k)]) (rest := []) ⟨hx, hb, hml, hown, hts⟩ (c_Tables_moveNow l D B0 hG H.size cO e0 tb pr lv pmo pst P Q pid (bpZ f n k) he0 (tok_mono htk hIm) hpid) (z_cV hN wd_407 wd_63 wd_404 hd_Tables_moveNow rfl rfl ⟨Nat.le_of_ble_eq_true rfl, Nat.le_of_ble_eq_true rfl⟩ wd_405 wd_406) (z_preVo (va_recv (ci := 8) (q0 := q9) hK hP rfl hq9) hPc hKc hN hDc hO hS hAO) rfl rfl hl.1 rfl (lv_room (Nat.le_of_ble_eq_true rfl)) d_Receiver_beginPiece_216 ⟨Nat.le_of_ble_eq_true rfl, Nat.le_of_ble_eq_true rfl⟩) hS (fun q _ h => hFc q h) hFc (fun m9 t H locs ht hvm e216 hB hz1 hk1 hS => ?_)
                obtain ⟨hP1, hK1, hD1⟩ := hB
                rw [ht] at hP1
                obtain ⟨hP, hD⟩ := va_joinP (wr := [(rv, .inr (4, [.ref tp, .ref ln, .ref tb, .ref ca, .ref dp])), (tp, .inr (0, [.ref a, .int (nI n)])), (a, .inl (cB, 9400, .inl f)), (la, .inr (1, [.int (nI pid), va_rf nx, .int ct, .int tw, .long ck, .int wr, .null, .ref pq.1])), (pq.1, .inr (3, [.int 1, .int (nI pid), .int (nI (rbN f n 9400 (k + 3))), .long (bpZ f n k), .int 0, .int 0, .int (bpU f n k)]))]) (rx := []) hP hD [] [0, 1, 2, 3, 4] rfl rfl (by decide) (by decide) hk1 hFc hP1 hD1
                clear hk1 hP1 hD1 hFc hPc hDc hz1
                have hP : va_P D classes ([(rv, .inr (4, [.ref tp, .ref ln, .ref tb, .ref ca, .ref dp])), (tp, .inr (0, [.ref a, .int (nI n)])), (a, .inl (cB, 9400, .inl f)), (la, .inr (1, [.int (nI pid), va_rf nx, .int ct, .int tw, .long ck, .int wr, .null, .ref pq.1])), (pq.1, .inr (3, [.int 1, .int (nI pid), .int (nI (rbN f n 9400 (k + 3))), .long (bpZ f n k), .int 0, .int 0, .int (bpU f n k)]))] ++ (tplr cO e0 tb lv pr P.length pmo pst m9.1 ++ (m9.2 ++ Q))) H := hP
                have hD : va_D A ([(rv, .inr (4, [.ref tp, .ref ln, .ref tb, .ref ca, .ref dp])), (tp, .inr (0, [.ref a, .int (nI n)])), (a, .inl (cB, 9400, .inl f)), (la, .inr (1, [.int (nI pid), va_rf nx, .int ct, .int tw, .long ck, .int wr, .null, .ref pq.1])), (pq.1, .inr (3, [.int 1, .int (nI pid), .int (nI (rbN f n 9400 (k + 3))), .long (bpZ f n k), .int 0, .int 0, .int (bpU f n k)]))] ++ (tplr cO e0 tb lv pr P.length pmo pst m9.1 ++ (m9.2 ++ Q))) := hD
                refine lv_iload hx hb d_Receiver_beginPiece_219 (lv_at hl 3 rfl) ?_
                have hP : va_P D classes ([(rv, .inr (4, [.ref tp, .ref ln, .ref tb, .ref ca, .ref dp])), (tp, .inr (0, [.ref a, .int (nI n)])), (a, .inl (cB, 9400, .inl f))] ++ (lzc cB (la, pid, nx, ct, tw, ck, wr, none, some (pq.1, 1, nI pid, nI (rbN f n 9400 (k + 3)), bpZ f n k, 0, 0, bpU f n k)) ++ (tplr cO e0 tb lv pr P.length pmo pst m9.1 ++ (m9.2 ++ Q)))) H := hP
                have hD : va_D A ([(rv, .inr (4, [.ref tp, .ref ln, .ref tb, .ref ca, .ref dp])), (tp, .inr (0, [.ref a, .int (nI n)])), (a, .inl (cB, 9400, .inl f))] ++ (lzc cB (la, pid, nx, ct, tw, ck, wr, none, some (pq.1, 1, nI pid, nI (rbN f n 9400 (k + 3)), bpZ f n k, 0, 0, bpU f n k)) ++ (tplr cO e0 tb lv pr P.length pmo pst m9.1 ++ (m9.2 ++ Q)))) := hD
                have hP9 := hP.part (cx := [(rv, .inr (4, [.ref tp, .ref ln, .ref tb, .ref ca, .ref dp])), (tp, .inr (0, [.ref a, .int (nI n)])), (a, .inl (cB, 9400, .inl f))]) [0, 1, 2] rfl
                have hD9 := hD.part (cx := [(rv, .inr (4, [.ref tp, .ref ln, .ref tb, .ref ca, .ref dp])), (tp, .inr (0, [.ref a, .int (nI n)])), (a, .inl (cB, 9400, .inl f))]) [0, 1, 2] (by decide) rfl
                have hK9 := hK.sub (tys' := [(cB, .byte), (cO, .object "java/lang/Object")]) [0, 1] rfl
                refine W.widen (k := 25) (n := 175) (by omega) (by omega) ?_
                exact W.iret (v := (nI (k + 9 + bpE f n k))) hx hb hr (fun t ht hW => ⟨⟨_, (some (pq.1, 1, nI pid, nI (rbN f n 9400 (k + 3)), bpZ f n k, 0, 0, bpU f n k), m9.1, m9.2), rfl, ⟨Or.inr ⟨⟨h25, h43, h61, hokt⟩, rfl, (⟨pq.1, fun q hq => (by cases hq; rfl), rfl⟩), Or.inl ⟨hmm, by rw [← hzz]; exact e216.1⟩⟩, mn_tok htk e216.1 e216.2⟩, ⟨by rw [ht]; exact hP9, va_K.moved hW.alike hK9, hD9⟩⟩, hS.F ht⟩) hS.2.2 d_Receiver_beginPiece_221
          | some sq =>
            cases pi with
            | none =>
              have hP : va_P D classes ([(rv, .inr (4, [.ref tp, .ref ln, .ref tb, .ref ca, .ref dp])), (tp, .inr (0, [.ref a, .int (nI n)])), (a, .inl (cB, 9400, .inl f)), (la, .inr (1, [.int (nI pid), va_rf nx, .int ct, .int tw, .long ck, .int wr, .ref sq.1, .null])), (sq.1, .inr (0, [.ref sq.2.1, .int (nI sq.2.2.1)])), (sq.2.1, .inl (cB, 1024, .inl sq.2.2.2))] ++ (tplr cO e0 tb lv pr P.length pmo pst P ++ Q)) s.heap := hP
              have hD : va_D A ([(rv, .inr (4, [.ref tp, .ref ln, .ref tb, .ref ca, .ref dp])), (tp, .inr (0, [.ref a, .int (nI n)])), (a, .inl (cB, 9400, .inl f)), (la, .inr (1, [.int (nI pid), va_rf nx, .int ct, .int tw, .long ck, .int wr, .ref sq.1, .null])), (sq.1, .inr (0, [.ref sq.2.1, .int (nI sq.2.2.1)])), (sq.2.1, .inl (cB, 1024, .inl sq.2.2.2))] ++ (tplr cO e0 tb lv pr P.length pmo pst P ++ Q)) := hD
              refine lv_aload_n hx hb d_Receiver_beginPiece_154 rfl (lv_at hl 6 rfl) ?_
              refine va_getN (D := D) (ci := 1) (v := .null) (C := R_Lane) (T := F_Lane) (N := 8) hx hb hts i_Lane hown hK hP 3 rfl rfl 7 (by decide) (hts _ wd_258) (fun _ h9 => h9) rfl d_Receiver_beginPiece_155 ?_
              refine lv_ifnonnullN hx hb d_Receiver_beginPiece_158 ?_
              refine lv_aload_n hx hb d_Receiver_beginPiece_161 rfl (lv_at hl 6 rfl) ?_
              refine va_new (ci := 3) (fs := [.int 0, .int 0, .int 0, .long 0, .int 0, .int 0, .int 0]) (C := R_Piece) (T := F_Piece) (N := 7) hx hb hts i_Piece t_Piece t_Piece_ok hown (hts _ wd_173) (hts _ wd_352) (hts _ wd_77) hK hP hD hS hA rfl (fs_Piece) (by show 0 + 1 ≤ 25; omega) (by show 0 + 7 ≤ 175; omega) d_Receiver_beginPiece_162 (fun q162 H hP hD hS => ?_)
              have hP := hP.swap
              have hD := hD.swap
              have hP : va_P D classes ([(rv, .inr (4, [.ref tp, .ref ln, .ref tb, .ref ca, .ref dp])), (tp, .inr (0, [.ref a, .int (nI n)])), (a, .inl (cB, 9400, .inl f)), (la, .inr (1, [.int (nI pid), va_rf nx, .int ct, .int tw, .long ck, .int wr, .ref sq.1, .null])), (sq.1, .inr (0, [.ref sq.2.1, .int (nI sq.2.2.1)])), (sq.2.1, .inl (cB, 1024, .inl sq.2.2.2)), (q162, .inr (3, [.int 0, .int 0, .int 0, .long 0, .int 0, .int 0, .int 0]))] ++ (tplr cO e0 tb lv pr P.length pmo pst P ++ Q)) H := hP
              have hD : va_D A ([(rv, .inr (4, [.ref tp, .ref ln, .ref tb, .ref ca, .ref dp])), (tp, .inr (0, [.ref a, .int (nI n)])), (a, .inl (cB, 9400, .inl f)), (la, .inr (1, [.int (nI pid), va_rf nx, .int ct, .int tw, .long ck, .int wr, .ref sq.1, .null])), (sq.1, .inr (0, [.ref sq.2.1, .int (nI sq.2.2.1)])), (sq.2.1, .inl (cB, 1024, .inl sq.2.2.2)), (q162, .inr (3, [.int 0, .int 0, .int 0, .long 0, .int 0, .int 0, .int 0]))] ++ (tplr cO e0 tb lv pr P.length pmo pst P ++ Q)) := hD
              refine lv_dup hx hb d_Receiver_beginPiece_165 rfl ?_
              have hPc := hP.sub (ws' := [(q162, .inr (3, [.int 0, .int 0, .int 0, .long 0, .int 0, .int 0, .int 0]))]) [6] rfl
              have hKc := hK.sub (tys' := []) [] rfl
              have hDc := hD.sub (ws' := [(q162, .inr (3, [.int 0, .int 0, .int 0, .long 0, .int 0, .int 0, .int 0]))]) [6] (by decide) rfl
              have hFc := va_free (wc := [(q162, .inr (3, [.int 0, .int 0, .int 0, .long 0, .int 0, .int 0, .int 0]))]) hD hS hA [6] rfl
              refine va_callv (va_runIN (As := []) (rest := [.ref q162, .ref la]) ⟨hx, hb, hml, hown, hts⟩ (c_Piece_init l D H.size q162 0 0 0 0 0 0 0 ) (z_cIn hN wd_355 wd_77 wd_353 hd_Piece_init rfl rfl ⟨Nat.le_of_ble_eq_true rfl, Nat.le_of_ble_eq_true rfl⟩ wd_354 rfl) (z_preSm hPc hKc hN hDc) rfl rfl hl.1 rfl (lv_room (Nat.le_of_ble_eq_true rfl)) d_Receiver_beginPiece_166 ⟨Nat.le_of_ble_eq_true rfl, Nat.le_of_ble_eq_true rfl⟩) hS (fun q _ h => hFc q h) hFc (fun u166 t H locs ht hvm e166 hB hz1 hk1 hS => ?_)
              obtain ⟨hP1, hK1, hD1⟩ := hB
              rw [ht] at hP1
              obtain ⟨hP, hD⟩ := va_joinQ (cx := [(q162, .inr (3, [.int 0, .int 0, .int 0, .long 0, .int 0, .int 0, .int 0]))]) (wr := [(rv, .inr (4, [.ref tp, .ref ln, .ref tb, .ref ca, .ref dp])), (tp, .inr (0, [.ref a, .int (nI n)])), (a, .inl (cB, 9400, .inl f)), (la, .inr (1, [.int (nI pid), va_rf nx, .int ct, .int tw, .long ck, .int wr, .ref sq.1, .null])), (sq.1, .inr (0, [.ref sq.2.1, .int (nI sq.2.2.1)])), (sq.2.1, .inl (cB, 1024, .inl sq.2.2.2))]) (w1 := [(q162, .inr (3, [.int 0, .int 0, .int 0, .long 0, .int 0, .int 0, .int 0]))]) hP hD [6] [0, 1, 2, 3, 4, 5] rfl rfl (by decide) (by decide) hk1 hFc hP1 hD1
              clear hk1 hP1 hD1 hFc hPc hDc hz1
              have hP : va_P D classes ([(rv, .inr (4, [.ref tp, .ref ln, .ref tb, .ref ca, .ref dp])), (tp, .inr (0, [.ref a, .int (nI n)])), (a, .inl (cB, 9400, .inl f)), (la, .inr (1, [.int (nI pid), va_rf nx, .int ct, .int tw, .long ck, .int wr, .ref sq.1, .null])), (sq.1, .inr (0, [.ref sq.2.1, .int (nI sq.2.2.1)])), (sq.2.1, .inl (cB, 1024, .inl sq.2.2.2)), (q162, .inr (3, [.int 0, .int 0, .int 0, .long 0, .int 0, .int 0, .int 0]))] ++ (tplr cO e0 tb lv pr P.length pmo pst P ++ Q)) H := hP
              have hD : va_D A ([(rv, .inr (4, [.ref tp, .ref ln, .ref tb, .ref ca, .ref dp])), (tp, .inr (0, [.ref a, .int (nI n)])), (a, .inl (cB, 9400, .inl f)), (la, .inr (1, [.int (nI pid), va_rf nx, .int ct, .int tw, .long ck, .int wr, .ref sq.1, .null])), (sq.1, .inr (0, [.ref sq.2.1, .int (nI sq.2.2.1)])), (sq.2.1, .inl (cB, 1024, .inl sq.2.2.2)), (q162, .inr (3, [.int 0, .int 0, .int 0, .long 0, .int 0, .int 0, .int 0]))] ++ (tplr cO e0 tb lv pr P.length pmo pst P ++ Q)) := hD
              refine va_putN (D := D) (ci := 1) (v := .ref q162) (ty := (.object "StreamSplitter$Piece")) (C := R_Lane) (T := F_Lane) (N := 8) hx hb hts i_Lane t_Lane t_Lane_ok n_Lane hown hK hP hD hS 3 rfl rfl 7 (by decide) (hts _ wd_258) (fun _ h9 => h9) rfl (by decide +kernel) rfl rfl (Nat.le_of_ble_eq_true rfl) d_Receiver_beginPiece_169 (fun H locs hP hD hS => ?_)
              have hP : va_P D classes ([(rv, .inr (4, [.ref tp, .ref ln, .ref tb, .ref ca, .ref dp])), (tp, .inr (0, [.ref a, .int (nI n)])), (a, .inl (cB, 9400, .inl f)), (la, .inr (1, [.int (nI pid), va_rf nx, .int ct, .int tw, .long ck, .int wr, .ref sq.1, .ref q162])), (sq.1, .inr (0, [.ref sq.2.1, .int (nI sq.2.2.1)])), (sq.2.1, .inl (cB, 1024, .inl sq.2.2.2)), (q162, .inr (3, [.int 0, .int 0, .int 0, .long 0, .int 0, .int 0, .int 0]))] ++ (tplr cO e0 tb lv pr P.length pmo pst P ++ Q)) H := hP
              have hD : va_D A ([(rv, .inr (4, [.ref tp, .ref ln, .ref tb, .ref ca, .ref dp])), (tp, .inr (0, [.ref a, .int (nI n)])), (a, .inl (cB, 9400, .inl f)), (la, .inr (1, [.int (nI pid), va_rf nx, .int ct, .int tw, .long ck, .int wr, .ref sq.1, .ref q162])), (sq.1, .inr (0, [.ref sq.2.1, .int (nI sq.2.2.1)])), (sq.2.1, .inl (cB, 1024, .inl sq.2.2.2)), (q162, .inr (3, [.int 0, .int 0, .int 0, .long 0, .int 0, .int 0, .int 0]))] ++ (tplr cO e0 tb lv pr P.length pmo pst P ++ Q)) := hD
              refine lv_aload_n hx hb d_Receiver_beginPiece_172 rfl (lv_at hl 6 rfl) ?_
              refine va_getN (D := D) (ci := 1) (v := .ref q162) (C := R_Lane) (T := F_Lane) (N := 8) hx hb hts i_Lane hown hK hP 3 rfl rfl 7 (by decide) (hts _ wd_258) (fun _ h9 => h9) rfl d_Receiver_beginPiece_173 ?_
              refine lv_aload_n hx hb d_Receiver_beginPiece_176 rfl (lv_at hl 6 rfl) ?_
              refine va_getN (D := D) (ci := 1) (v := .int (nI pid)) (C := R_Lane) (T := F_Lane) (N := 8) hx hb hts i_Lane hown hK hP 3 rfl rfl 0 (by decide) (hts _ wd_244) (fun _ h9 => h9) rfl d_Receiver_beginPiece_177 ?_
              refine lv_aload_n hx hb d_Receiver_beginPiece_180 rfl (lv_at hl 5 rfl) ?_
              refine va_get (D := D) (ci := 4) (v := .ref tp) (C := R_Receiver) (T := F_Receiver) (N := 5) hx hb hts i_Receiver hown hK hP 0 rfl rfl 0 (by decide) (hts _ wd_175) (fun _ h9 => h9) rfl d_Receiver_beginPiece_181 ?_
              refine lv_iload_n hx hb d_Receiver_beginPiece_184 rfl (lv_at hl 7 rfl) ?_
              refine lv_iconst (v := 3) hx hb d_Receiver_beginPiece_185 (by decide) ?_
              refine lv_iadd hx hb d_Receiver_beginPiece_186 ?_
              refine z_topi (w := nI (k + 3)) (nI_add _ 3) ?_
              have hPc := hP.sub (ws' := [(tp, .inr (0, [.ref a, .int (nI n)])), (a, .inl (cB, 9400, .inl f))]) [1, 2] rfl
              have hKc := hK.sub (tys' := [(cB, .byte)]) [0] rfl
              refine z_ci (va_runV (As := [.int (nI (k + 3))]) (rest := [.int (nI pid), .ref q162]) ⟨hx, hb, hml, hown, hts⟩ (c_Row_at l D cB tp a n 9400 f (nI (k + 3)) (by omega)) (z_cV hN wd_212 wd_61 wd_221 hd_Row_at rfl rfl ⟨Nat.le_of_ble_eq_true rfl, Nat.le_of_ble_eq_true rfl⟩ wd_210 wd_211) (z_preV (va_recv (ci := 0) (q0 := 1) hK hP rfl rfl) hPc hKc hN) rfl rfl hl.1 rfl (lv_room (Nat.le_of_ble_eq_true rfl)) d_Receiver_beginPiece_187 ⟨Nat.le_of_ble_eq_true rfl, Nat.le_of_ble_eq_true rfl⟩) (fun r187 e187 => ?_)
              refine z_topi (w := rw_at f n 9400 (nI (k + 3))) e187 ?_
              refine z_topi (w := nI (rbN f n 9400 (k + 3))) (rb_eq _ _ _ _) ?_
              refine lv_lload hx hb d_Receiver_beginPiece_190 (lv_at hl 0 rfl) ?_
              refine lv_iload hx hb d_Receiver_beginPiece_192 (lv_at hl 1 rfl) ?_
              have hPc := hP.sub (ws' := [(q162, .inr (3, [.int 0, .int 0, .int 0, .long 0, .int 0, .int 0, .int 0]))]) [6] rfl
              have hKc := hK.sub (tys' := []) [] rfl
              have hDc := hD.sub (ws' := [(q162, .inr (3, [.int 0, .int 0, .int 0, .long 0, .int 0, .int 0, .int 0]))]) [6] (by decide) rfl
              have hFc := va_free (wc := [(q162, .inr (3, [.int 0, .int 0, .int 0, .long 0, .int 0, .int 0, .int 0]))]) hD hS hA [6] rfl
              refine va_callv (va_runV (As := [.int (nI pid), .int (nI (rbN f n 9400 (k + 3))), .long (bpZ f n k), .int (bpU f n k)]) (rest := []) ⟨hx, hb, hml, hown, hts⟩ (c_Piece_begin l D H.size q162 0 0 0 0 0 0 0 (nI pid) (nI (rbN f n 9400 (k + 3))) (bpU f n k) (bpZ f n k) ) (z_cV hN wd_403 wd_77 wd_400 hd_Piece_begin rfl rfl ⟨Nat.le_of_ble_eq_true rfl, Nat.le_of_ble_eq_true rfl⟩ wd_401 wd_402) (z_preVm (va_recv (ci := 3) (q0 := 6) hK hP rfl rfl) hPc hKc hN hDc) rfl rfl hl.1 rfl (lv_room (Nat.le_of_ble_eq_true rfl)) d_Receiver_beginPiece_194 ⟨Nat.le_of_ble_eq_true rfl, Nat.le_of_ble_eq_true rfl⟩) hS (fun q _ h => hFc q h) hFc (fun u194 t H locs ht hvm e194 hB hz1 hk1 hS => ?_)
              obtain ⟨hP1, hK1, hD1⟩ := hB
              rw [ht] at hP1
              obtain ⟨hP, hD⟩ := va_joinQ (cx := [(q162, .inr (3, [.int 0, .int 0, .int 0, .long 0, .int 0, .int 0, .int 0]))]) (wr := [(rv, .inr (4, [.ref tp, .ref ln, .ref tb, .ref ca, .ref dp])), (tp, .inr (0, [.ref a, .int (nI n)])), (a, .inl (cB, 9400, .inl f)), (la, .inr (1, [.int (nI pid), va_rf nx, .int ct, .int tw, .long ck, .int wr, .ref sq.1, .ref q162])), (sq.1, .inr (0, [.ref sq.2.1, .int (nI sq.2.2.1)])), (sq.2.1, .inl (cB, 1024, .inl sq.2.2.2))]) (w1 := [(q162, .inr (3, [.int 1, .int (nI pid), .int (nI (rbN f n 9400 (k + 3))), .long (bpZ f n k), .int 0, .int 0, .int (bpU f n k)]))]) hP hD [6] [0, 1, 2, 3, 4, 5] rfl rfl (by decide) (by decide) hk1 hFc hP1 hD1
              clear hk1 hP1 hD1 hFc hPc hDc hz1
              have hP : va_P D classes ([(rv, .inr (4, [.ref tp, .ref ln, .ref tb, .ref ca, .ref dp])), (tp, .inr (0, [.ref a, .int (nI n)])), (a, .inl (cB, 9400, .inl f)), (la, .inr (1, [.int (nI pid), va_rf nx, .int ct, .int tw, .long ck, .int wr, .ref sq.1, .ref q162])), (sq.1, .inr (0, [.ref sq.2.1, .int (nI sq.2.2.1)])), (sq.2.1, .inl (cB, 1024, .inl sq.2.2.2)), (q162, .inr (3, [.int 1, .int (nI pid), .int (nI (rbN f n 9400 (k + 3))), .long (bpZ f n k), .int 0, .int 0, .int (bpU f n k)]))] ++ (tplr cO e0 tb lv pr P.length pmo pst P ++ Q)) H := hP
              have hD : va_D A ([(rv, .inr (4, [.ref tp, .ref ln, .ref tb, .ref ca, .ref dp])), (tp, .inr (0, [.ref a, .int (nI n)])), (a, .inl (cB, 9400, .inl f)), (la, .inr (1, [.int (nI pid), va_rf nx, .int ct, .int tw, .long ck, .int wr, .ref sq.1, .ref q162])), (sq.1, .inr (0, [.ref sq.2.1, .int (nI sq.2.2.1)])), (sq.2.1, .inl (cB, 1024, .inl sq.2.2.2)), (q162, .inr (3, [.int 1, .int (nI pid), .int (nI (rbN f n 9400 (k + 3))), .long (bpZ f n k), .int 0, .int 0, .int (bpU f n k)]))] ++ (tplr cO e0 tb lv pr P.length pmo pst P ++ Q)) := hD
              refine lv_lload hx hb d_Receiver_beginPiece_197 (lv_at hl 0 rfl) ?_
              refine lv_ldc2 hx hb hown (hts _ wd_399) d_Receiver_beginPiece_199 ?_
              refine W.lcmp hx hb d_Receiver_beginPiece_202 ?_
              refine lv_if_eq (tgt := 219) hx hb d_Receiver_beginPiece_203 rfl (fun h203 => ?_) (fun h203 => ?_)
              · have h203 : bpZ f n k = -1 := (lg_cmp_eq _ _).mp h203
                have hnm : ¬ bpM f n k := fun z9 => by unfold bpZ at h203; rw [if_pos z9] at h203; exact tm_ne _ (tmN_lt _ _ _) h203
                refine lv_iload hx hb d_Receiver_beginPiece_219 (lv_at hl 3 rfl) ?_
                have hP : va_P D classes ([(rv, .inr (4, [.ref tp, .ref ln, .ref tb, .ref ca, .ref dp])), (tp, .inr (0, [.ref a, .int (nI n)])), (a, .inl (cB, 9400, .inl f))] ++ (lzc cB (la, pid, nx, ct, tw, ck, wr, (some sq), some (q162, 1, nI pid, nI (rbN f n 9400 (k + 3)), bpZ f n k, 0, 0, bpU f n k)) ++ (tplr cO e0 tb lv pr P.length pmo pst P ++ ([] ++ Q)))) H := hP
                have hD : va_D A ([(rv, .inr (4, [.ref tp, .ref ln, .ref tb, .ref ca, .ref dp])), (tp, .inr (0, [.ref a, .int (nI n)])), (a, .inl (cB, 9400, .inl f))] ++ (lzc cB (la, pid, nx, ct, tw, ck, wr, (some sq), some (q162, 1, nI pid, nI (rbN f n 9400 (k + 3)), bpZ f n k, 0, 0, bpU f n k)) ++ (tplr cO e0 tb lv pr P.length pmo pst P ++ ([] ++ Q)))) := hD
                have hP9 := hP.part (cx := [(rv, .inr (4, [.ref tp, .ref ln, .ref tb, .ref ca, .ref dp])), (tp, .inr (0, [.ref a, .int (nI n)])), (a, .inl (cB, 9400, .inl f))]) [0, 1, 2] rfl
                have hD9 := hD.part (cx := [(rv, .inr (4, [.ref tp, .ref ln, .ref tb, .ref ca, .ref dp])), (tp, .inr (0, [.ref a, .int (nI n)])), (a, .inl (cB, 9400, .inl f))]) [0, 1, 2] (by decide) rfl
                have hK9 := hK.sub (tys' := [(cB, .byte), (cO, .object "java/lang/Object")]) [0, 1] rfl
                refine W.widen (k := 25) (n := 175) (by omega) (by omega) ?_
                exact W.iret (v := (nI (k + 9 + bpE f n k))) hx hb hr (fun t ht hW => ⟨⟨_, (some (q162, 1, nI pid, nI (rbN f n 9400 (k + 3)), bpZ f n k, 0, 0, bpU f n k), P, []), rfl, ⟨Or.inr ⟨⟨h25, h43, h61, hokt⟩, rfl, (⟨q162, fun q hq => (by cases hq), rfl⟩), Or.inr ⟨hnm, rfl⟩⟩, htk⟩, ⟨by rw [ht]; exact hP9, va_K.moved hW.alike hK9, hD9⟩⟩, hS.F ht⟩) hS.2.2 d_Receiver_beginPiece_221
              · have h203 : ¬ bpZ f n k = -1 := mt (lg_cmp_eq _ _).mpr h203
                have hmm : bpM f n k := by apply Decidable.byContradiction; intro z9; exact h203 (by unfold bpZ; rw [if_neg z9])
                have hzz : bpZ f n k = lN (tmN f n (k + 9)) := by unfold bpZ; rw [if_pos hmm]
                refine lv_aload_n hx hb d_Receiver_beginPiece_206 rfl (lv_at hl 5 rfl) ?_
                refine va_get (D := D) (ci := 4) (v := .ref tb) (C := R_Receiver) (T := F_Receiver) (N := 5) hx hb hts i_Receiver hown hK hP 0 rfl rfl 2 (by decide) (hts _ wd_179) (fun _ h9 => h9) rfl d_Receiver_beginPiece_207 ?_
                refine lv_aload_n hx hb d_Receiver_beginPiece_210 rfl (lv_at hl 6 rfl) ?_
                refine va_getN (D := D) (ci := 1) (v := .int (nI pid)) (C := R_Lane) (T := F_Lane) (N := 8) hx hb hts i_Lane hown hK hP 3 rfl rfl 0 (by decide) (hts _ wd_244) (fun _ h9 => h9) rfl d_Receiver_beginPiece_211 ?_
                refine lv_lload hx hb d_Receiver_beginPiece_214 (lv_at hl 0 rfl) ?_
                obtain ⟨q9, hq9⟩ : ∃ q9 : Nat, ([(rv, .inr (4, [.ref tp, .ref ln, .ref tb, .ref ca, .ref dp])), (tp, .inr (0, [.ref a, .int (nI n)])), (a, .inl (cB, 9400, .inl f)), (la, .inr (1, [.int (nI pid), va_rf nx, .int ct, .int tw, .long ck, .int wr, .ref sq.1, .ref q162])), (sq.1, .inr (0, [.ref sq.2.1, .int (nI sq.2.2.1)])), (sq.2.1, .inl (cB, 1024, .inl sq.2.2.2)), (q162, .inr (3, [.int 1, .int (nI pid), .int (nI (rbN f n 9400 (k + 3))), .long (bpZ f n k), .int 0, .int 0, .int (bpU f n k)]))] ++ (tplr cO e0 tb lv pr P.length pmo pst P ++ Q))[q9]? = some (tb, .inr (8, [.int lv, .ref pr])) := ⟨7, rfl⟩
                have hPc := hP.part (cx := []) [] rfl
                have hKc := hK.sub (tys' := [(cO, .object "java/lang/Object")]) [1] rfl
                have hDc := hD.part (cx := []) [] (by decide) rfl
                have hFc := va_freeP (cx := []) hD hS hA [] rfl
                refine va_callv (va_runV (As := [.int (nI pid), .long (bpZ f n k)]) (rest := []) ⟨hx, hb, hml, hown, hts⟩ (c_Tables_moveNow l D B0 hG H.size cO e0 tb pr lv pmo pst P Q pid (bpZ f n k) he0 (tok_mono htk hIm) hpid) (z_cV hN wd_407 wd_63 wd_404 hd_Tables_moveNow rfl rfl ⟨Nat.le_of_ble_eq_true rfl, Nat.le_of_ble_eq_true rfl⟩ wd_405 wd_406) (z_preVo (va_recv (ci := 8) (q0 := q9) hK hP rfl hq9) hPc hKc hN hDc hO hS hAO) rfl rfl hl.1 rfl (lv_room (Nat.le_of_ble_eq_true rfl)) d_Receiver_beginPiece_216 ⟨Nat.le_of_ble_eq_true rfl, Nat.le_of_ble_eq_true rfl⟩) hS (fun q _ h => hFc q h) hFc (fun m9 t H locs ht hvm e216 hB hz1 hk1 hS => ?_)
                obtain ⟨hP1, hK1, hD1⟩ := hB
                rw [ht] at hP1
                obtain ⟨hP, hD⟩ := va_joinP (wr := [(rv, .inr (4, [.ref tp, .ref ln, .ref tb, .ref ca, .ref dp])), (tp, .inr (0, [.ref a, .int (nI n)])), (a, .inl (cB, 9400, .inl f)), (la, .inr (1, [.int (nI pid), va_rf nx, .int ct, .int tw, .long ck, .int wr, .ref sq.1, .ref q162])), (sq.1, .inr (0, [.ref sq.2.1, .int (nI sq.2.2.1)])), (sq.2.1, .inl (cB, 1024, .inl sq.2.2.2)), (q162, .inr (3, [.int 1, .int (nI pid), .int (nI (rbN f n 9400 (k + 3))), .long (bpZ f n k), .int 0, .int 0, .int (bpU f n k)]))]) (rx := []) hP hD [] [0, 1, 2, 3, 4, 5, 6] rfl rfl (by decide) (by decide) hk1 hFc hP1 hD1
                clear hk1 hP1 hD1 hFc hPc hDc hz1
                have hP : va_P D classes ([(rv, .inr (4, [.ref tp, .ref ln, .ref tb, .ref ca, .ref dp])), (tp, .inr (0, [.ref a, .int (nI n)])), (a, .inl (cB, 9400, .inl f)), (la, .inr (1, [.int (nI pid), va_rf nx, .int ct, .int tw, .long ck, .int wr, .ref sq.1, .ref q162])), (sq.1, .inr (0, [.ref sq.2.1, .int (nI sq.2.2.1)])), (sq.2.1, .inl (cB, 1024, .inl sq.2.2.2)), (q162, .inr (3, [.int 1, .int (nI pid), .int (nI (rbN f n 9400 (k + 3))), .long (bpZ f n k), .int 0, .int 0, .int (bpU f n k)]))] ++ (tplr cO e0 tb lv pr P.length pmo pst m9.1 ++ (m9.2 ++ Q))) H := hP
                have hD : va_D A ([(rv, .inr (4, [.ref tp, .ref ln, .ref tb, .ref ca, .ref dp])), (tp, .inr (0, [.ref a, .int (nI n)])), (a, .inl (cB, 9400, .inl f)), (la, .inr (1, [.int (nI pid), va_rf nx, .int ct, .int tw, .long ck, .int wr, .ref sq.1, .ref q162])), (sq.1, .inr (0, [.ref sq.2.1, .int (nI sq.2.2.1)])), (sq.2.1, .inl (cB, 1024, .inl sq.2.2.2)), (q162, .inr (3, [.int 1, .int (nI pid), .int (nI (rbN f n 9400 (k + 3))), .long (bpZ f n k), .int 0, .int 0, .int (bpU f n k)]))] ++ (tplr cO e0 tb lv pr P.length pmo pst m9.1 ++ (m9.2 ++ Q))) := hD
                refine lv_iload hx hb d_Receiver_beginPiece_219 (lv_at hl 3 rfl) ?_
                have hP : va_P D classes ([(rv, .inr (4, [.ref tp, .ref ln, .ref tb, .ref ca, .ref dp])), (tp, .inr (0, [.ref a, .int (nI n)])), (a, .inl (cB, 9400, .inl f))] ++ (lzc cB (la, pid, nx, ct, tw, ck, wr, (some sq), some (q162, 1, nI pid, nI (rbN f n 9400 (k + 3)), bpZ f n k, 0, 0, bpU f n k)) ++ (tplr cO e0 tb lv pr P.length pmo pst m9.1 ++ (m9.2 ++ Q)))) H := hP
                have hD : va_D A ([(rv, .inr (4, [.ref tp, .ref ln, .ref tb, .ref ca, .ref dp])), (tp, .inr (0, [.ref a, .int (nI n)])), (a, .inl (cB, 9400, .inl f))] ++ (lzc cB (la, pid, nx, ct, tw, ck, wr, (some sq), some (q162, 1, nI pid, nI (rbN f n 9400 (k + 3)), bpZ f n k, 0, 0, bpU f n k)) ++ (tplr cO e0 tb lv pr P.length pmo pst m9.1 ++ (m9.2 ++ Q)))) := hD
                have hP9 := hP.part (cx := [(rv, .inr (4, [.ref tp, .ref ln, .ref tb, .ref ca, .ref dp])), (tp, .inr (0, [.ref a, .int (nI n)])), (a, .inl (cB, 9400, .inl f))]) [0, 1, 2] rfl
                have hD9 := hD.part (cx := [(rv, .inr (4, [.ref tp, .ref ln, .ref tb, .ref ca, .ref dp])), (tp, .inr (0, [.ref a, .int (nI n)])), (a, .inl (cB, 9400, .inl f))]) [0, 1, 2] (by decide) rfl
                have hK9 := hK.sub (tys' := [(cB, .byte), (cO, .object "java/lang/Object")]) [0, 1] rfl
                refine W.widen (k := 25) (n := 175) (by omega) (by omega) ?_
                exact W.iret (v := (nI (k + 9 + bpE f n k))) hx hb hr (fun t ht hW => ⟨⟨_, (some (q162, 1, nI pid, nI (rbN f n 9400 (k + 3)), bpZ f n k, 0, 0, bpU f n k), m9.1, m9.2), rfl, ⟨Or.inr ⟨⟨h25, h43, h61, hokt⟩, rfl, (⟨q162, fun q hq => (by cases hq), rfl⟩), Or.inl ⟨hmm, by rw [← hzz]; exact e216.1⟩⟩, mn_tok htk e216.1 e216.2⟩, ⟨by rw [ht]; exact hP9, va_K.moved hW.alike hK9, hD9⟩⟩, hS.F ht⟩) hS.2.2 d_Receiver_beginPiece_221
            | some pq =>
              have hP : va_P D classes ([(rv, .inr (4, [.ref tp, .ref ln, .ref tb, .ref ca, .ref dp])), (tp, .inr (0, [.ref a, .int (nI n)])), (a, .inl (cB, 9400, .inl f)), (la, .inr (1, [.int (nI pid), va_rf nx, .int ct, .int tw, .long ck, .int wr, .ref sq.1, .ref pq.1])), (sq.1, .inr (0, [.ref sq.2.1, .int (nI sq.2.2.1)])), (sq.2.1, .inl (cB, 1024, .inl sq.2.2.2)), (pq.1, .inr (3, [.int pq.2.1, .int pq.2.2.1, .int pq.2.2.2.1, .long pq.2.2.2.2.1, .int pq.2.2.2.2.2.1, .int pq.2.2.2.2.2.2.1, .int pq.2.2.2.2.2.2.2]))] ++ (tplr cO e0 tb lv pr P.length pmo pst P ++ Q)) s.heap := hP
              have hD : va_D A ([(rv, .inr (4, [.ref tp, .ref ln, .ref tb, .ref ca, .ref dp])), (tp, .inr (0, [.ref a, .int (nI n)])), (a, .inl (cB, 9400, .inl f)), (la, .inr (1, [.int (nI pid), va_rf nx, .int ct, .int tw, .long ck, .int wr, .ref sq.1, .ref pq.1])), (sq.1, .inr (0, [.ref sq.2.1, .int (nI sq.2.2.1)])), (sq.2.1, .inl (cB, 1024, .inl sq.2.2.2)), (pq.1, .inr (3, [.int pq.2.1, .int pq.2.2.1, .int pq.2.2.2.1, .long pq.2.2.2.2.1, .int pq.2.2.2.2.2.1, .int pq.2.2.2.2.2.2.1, .int pq.2.2.2.2.2.2.2]))] ++ (tplr cO e0 tb lv pr P.length pmo pst P ++ Q)) := hD
              refine lv_aload_n hx hb d_Receiver_beginPiece_154 rfl (lv_at hl 6 rfl) ?_
              refine va_getN (D := D) (ci := 1) (v := .ref pq.1) (C := R_Lane) (T := F_Lane) (N := 8) hx hb hts i_Lane hown hK hP 3 rfl rfl 7 (by decide) (hts _ wd_258) (fun _ h9 => h9) rfl d_Receiver_beginPiece_155 ?_
              refine lv_ifnonnull (tgt := 172) hx hb d_Receiver_beginPiece_158 rfl ?_
              refine lv_aload_n hx hb d_Receiver_beginPiece_172 rfl (lv_at hl 6 rfl) ?_
              refine va_getN (D := D) (ci := 1) (v := .ref pq.1) (C := R_Lane) (T := F_Lane) (N := 8) hx hb hts i_Lane hown hK hP 3 rfl rfl 7 (by decide) (hts _ wd_258) (fun _ h9 => h9) rfl d_Receiver_beginPiece_173 ?_
              refine lv_aload_n hx hb d_Receiver_beginPiece_176 rfl (lv_at hl 6 rfl) ?_
              refine va_getN (D := D) (ci := 1) (v := .int (nI pid)) (C := R_Lane) (T := F_Lane) (N := 8) hx hb hts i_Lane hown hK hP 3 rfl rfl 0 (by decide) (hts _ wd_244) (fun _ h9 => h9) rfl d_Receiver_beginPiece_177 ?_
              refine lv_aload_n hx hb d_Receiver_beginPiece_180 rfl (lv_at hl 5 rfl) ?_
              refine va_get (D := D) (ci := 4) (v := .ref tp) (C := R_Receiver) (T := F_Receiver) (N := 5) hx hb hts i_Receiver hown hK hP 0 rfl rfl 0 (by decide) (hts _ wd_175) (fun _ h9 => h9) rfl d_Receiver_beginPiece_181 ?_
              refine lv_iload_n hx hb d_Receiver_beginPiece_184 rfl (lv_at hl 7 rfl) ?_
              refine lv_iconst (v := 3) hx hb d_Receiver_beginPiece_185 (by decide) ?_
              refine lv_iadd hx hb d_Receiver_beginPiece_186 ?_
              refine z_topi (w := nI (k + 3)) (nI_add _ 3) ?_
              have hPc := hP.sub (ws' := [(tp, .inr (0, [.ref a, .int (nI n)])), (a, .inl (cB, 9400, .inl f))]) [1, 2] rfl
              have hKc := hK.sub (tys' := [(cB, .byte)]) [0] rfl
              refine z_ci (va_runV (As := [.int (nI (k + 3))]) (rest := [.int (nI pid), .ref pq.1]) ⟨hx, hb, hml, hown, hts⟩ (c_Row_at l D cB tp a n 9400 f (nI (k + 3)) (by omega)) (z_cV hN wd_212 wd_61 wd_221 hd_Row_at rfl rfl ⟨Nat.le_of_ble_eq_true rfl, Nat.le_of_ble_eq_true rfl⟩ wd_210 wd_211) (z_preV (va_recv (ci := 0) (q0 := 1) hK hP rfl rfl) hPc hKc hN) rfl rfl hl.1 rfl (lv_room (Nat.le_of_ble_eq_true rfl)) d_Receiver_beginPiece_187 ⟨Nat.le_of_ble_eq_true rfl, Nat.le_of_ble_eq_true rfl⟩) (fun r187 e187 => ?_)
              refine z_topi (w := rw_at f n 9400 (nI (k + 3))) e187 ?_
              refine z_topi (w := nI (rbN f n 9400 (k + 3))) (rb_eq _ _ _ _) ?_
              refine lv_lload hx hb d_Receiver_beginPiece_190 (lv_at hl 0 rfl) ?_
              refine lv_iload hx hb d_Receiver_beginPiece_192 (lv_at hl 1 rfl) ?_
              have hPc := hP.sub (ws' := [(pq.1, .inr (3, [.int pq.2.1, .int pq.2.2.1, .int pq.2.2.2.1, .long pq.2.2.2.2.1, .int pq.2.2.2.2.2.1, .int pq.2.2.2.2.2.2.1, .int pq.2.2.2.2.2.2.2]))]) [6] rfl
              have hKc := hK.sub (tys' := []) [] rfl
              have hDc := hD.sub (ws' := [(pq.1, .inr (3, [.int pq.2.1, .int pq.2.2.1, .int pq.2.2.2.1, .long pq.2.2.2.2.1, .int pq.2.2.2.2.2.1, .int pq.2.2.2.2.2.2.1, .int pq.2.2.2.2.2.2.2]))]) [6] (by decide) rfl
              have hFc := va_free (wc := [(pq.1, .inr (3, [.int pq.2.1, .int pq.2.2.1, .int pq.2.2.2.1, .long pq.2.2.2.2.1, .int pq.2.2.2.2.2.1, .int pq.2.2.2.2.2.2.1, .int pq.2.2.2.2.2.2.2]))]) hD hS hA [6] rfl
              refine va_callv (va_runV (As := [.int (nI pid), .int (nI (rbN f n 9400 (k + 3))), .long (bpZ f n k), .int (bpU f n k)]) (rest := []) ⟨hx, hb, hml, hown, hts⟩ (c_Piece_begin l D s.heap.size pq.1 pq.2.1 pq.2.2.1 pq.2.2.2.1 pq.2.2.2.2.2.1 pq.2.2.2.2.2.2.1 pq.2.2.2.2.2.2.2 pq.2.2.2.2.1 (nI pid) (nI (rbN f n 9400 (k + 3))) (bpU f n k) (bpZ f n k) ) (z_cV hN wd_403 wd_77 wd_400 hd_Piece_begin rfl rfl ⟨Nat.le_of_ble_eq_true rfl, Nat.le_of_ble_eq_true rfl⟩ wd_401 wd_402) (z_preVm (va_recv (ci := 3) (q0 := 6) hK hP rfl rfl) hPc hKc hN hDc) rfl rfl hl.1 rfl (lv_room (Nat.le_of_ble_eq_true rfl)) d_Receiver_beginPiece_194 ⟨Nat.le_of_ble_eq_true rfl, Nat.le_of_ble_eq_true rfl⟩) hS (fun q _ h => hFc q h) hFc (fun u194 t H locs ht hvm e194 hB hz1 hk1 hS => ?_)
              obtain ⟨hP1, hK1, hD1⟩ := hB
              rw [ht] at hP1
              obtain ⟨hP, hD⟩ := va_joinQ (cx := [(pq.1, .inr (3, [.int pq.2.1, .int pq.2.2.1, .int pq.2.2.2.1, .long pq.2.2.2.2.1, .int pq.2.2.2.2.2.1, .int pq.2.2.2.2.2.2.1, .int pq.2.2.2.2.2.2.2]))]) (wr := [(rv, .inr (4, [.ref tp, .ref ln, .ref tb, .ref ca, .ref dp])), (tp, .inr (0, [.ref a, .int (nI n)])), (a, .inl (cB, 9400, .inl f)), (la, .inr (1, [.int (nI pid), va_rf nx, .int ct, .int tw, .long ck, .int wr, .ref sq.1, .ref pq.1])), (sq.1, .inr (0, [.ref sq.2.1, .int (nI sq.2.2.1)])), (sq.2.1, .inl (cB, 1024, .inl sq.2.2.2))]) (w1 := [(pq.1, .inr (3, [.int 1, .int (nI pid), .int (nI (rbN f n 9400 (k + 3))), .long (bpZ f n k), .int 0, .int 0, .int (bpU f n k)]))]) hP hD [6] [0, 1, 2, 3, 4, 5] rfl rfl (by decide) (by decide) hk1 hFc hP1 hD1
              clear hk1 hP1 hD1 hFc hPc hDc hz1
              have hP : va_P D classes ([(rv, .inr (4, [.ref tp, .ref ln, .ref tb, .ref ca, .ref dp])), (tp, .inr (0, [.ref a, .int (nI n)])), (a, .inl (cB, 9400, .inl f)), (la, .inr (1, [.int (nI pid), va_rf nx, .int ct, .int tw, .long ck, .int wr, .ref sq.1, .ref pq.1])), (sq.1, .inr (0, [.ref sq.2.1, .int (nI sq.2.2.1)])), (sq.2.1, .inl (cB, 1024, .inl sq.2.2.2)), (pq.1, .inr (3, [.int 1, .int (nI pid), .int (nI (rbN f n 9400 (k + 3))), .long (bpZ f n k), .int 0, .int 0, .int (bpU f n k)]))] ++ (tplr cO e0 tb lv pr P.length pmo pst P ++ Q)) H := hP
              have hD : va_D A ([(rv, .inr (4, [.ref tp, .ref ln, .ref tb, .ref ca, .ref dp])), (tp, .inr (0, [.ref a, .int (nI n)])), (a, .inl (cB, 9400, .inl f)), (la, .inr (1, [.int (nI pid), va_rf nx, .int ct, .int tw, .long ck, .int wr, .ref sq.1, .ref pq.1])), (sq.1, .inr (0, [.ref sq.2.1, .int (nI sq.2.2.1)])), (sq.2.1, .inl (cB, 1024, .inl sq.2.2.2)), (pq.1, .inr (3, [.int 1, .int (nI pid), .int (nI (rbN f n 9400 (k + 3))), .long (bpZ f n k), .int 0, .int 0, .int (bpU f n k)]))] ++ (tplr cO e0 tb lv pr P.length pmo pst P ++ Q)) := hD
              refine lv_lload hx hb d_Receiver_beginPiece_197 (lv_at hl 0 rfl) ?_
              refine lv_ldc2 hx hb hown (hts _ wd_399) d_Receiver_beginPiece_199 ?_
              refine W.lcmp hx hb d_Receiver_beginPiece_202 ?_
              refine lv_if_eq (tgt := 219) hx hb d_Receiver_beginPiece_203 rfl (fun h203 => ?_) (fun h203 => ?_)
              · have h203 : bpZ f n k = -1 := (lg_cmp_eq _ _).mp h203
                have hnm : ¬ bpM f n k := fun z9 => by unfold bpZ at h203; rw [if_pos z9] at h203; exact tm_ne _ (tmN_lt _ _ _) h203
                refine lv_iload hx hb d_Receiver_beginPiece_219 (lv_at hl 3 rfl) ?_
                have hP : va_P D classes ([(rv, .inr (4, [.ref tp, .ref ln, .ref tb, .ref ca, .ref dp])), (tp, .inr (0, [.ref a, .int (nI n)])), (a, .inl (cB, 9400, .inl f))] ++ (lzc cB (la, pid, nx, ct, tw, ck, wr, (some sq), some (pq.1, 1, nI pid, nI (rbN f n 9400 (k + 3)), bpZ f n k, 0, 0, bpU f n k)) ++ (tplr cO e0 tb lv pr P.length pmo pst P ++ ([] ++ Q)))) H := hP
                have hD : va_D A ([(rv, .inr (4, [.ref tp, .ref ln, .ref tb, .ref ca, .ref dp])), (tp, .inr (0, [.ref a, .int (nI n)])), (a, .inl (cB, 9400, .inl f))] ++ (lzc cB (la, pid, nx, ct, tw, ck, wr, (some sq), some (pq.1, 1, nI pid, nI (rbN f n 9400 (k + 3)), bpZ f n k, 0, 0, bpU f n k)) ++ (tplr cO e0 tb lv pr P.length pmo pst P ++ ([] ++ Q)))) := hD
                have hP9 := hP.part (cx := [(rv, .inr (4, [.ref tp, .ref ln, .ref tb, .ref ca, .ref dp])), (tp, .inr (0, [.ref a, .int (nI n)])), (a, .inl (cB, 9400, .inl f))]) [0, 1, 2] rfl
                have hD9 := hD.part (cx := [(rv, .inr (4, [.ref tp, .ref ln, .ref tb, .ref ca, .ref dp])), (tp, .inr (0, [.ref a, .int (nI n)])), (a, .inl (cB, 9400, .inl f))]) [0, 1, 2] (by decide) rfl
                have hK9 := hK.sub (tys' := [(cB, .byte), (cO, .object "java/lang/Object")]) [0, 1] rfl
                refine W.widen (k := 25) (n := 175) (by omega) (by omega) ?_
                exact W.iret (v := (nI (k + 9 + bpE f n k))) hx hb hr (fun t ht hW => ⟨⟨_, (some (pq.1, 1, nI pid, nI (rbN f n 9400 (k + 3)), bpZ f n k, 0, 0, bpU f n k), P, []), rfl, ⟨Or.inr ⟨⟨h25, h43, h61, hokt⟩, rfl, (⟨pq.1, fun q hq => (by cases hq; rfl), rfl⟩), Or.inr ⟨hnm, rfl⟩⟩, htk⟩, ⟨by rw [ht]; exact hP9, va_K.moved hW.alike hK9, hD9⟩⟩, hS.F ht⟩) hS.2.2 d_Receiver_beginPiece_221
              · have h203 : ¬ bpZ f n k = -1 := mt (lg_cmp_eq _ _).mpr h203
                have hmm : bpM f n k := by apply Decidable.byContradiction; intro z9; exact h203 (by unfold bpZ; rw [if_neg z9])
                have hzz : bpZ f n k = lN (tmN f n (k + 9)) := by unfold bpZ; rw [if_pos hmm]
                refine lv_aload_n hx hb d_Receiver_beginPiece_206 rfl (lv_at hl 5 rfl) ?_
                refine va_get (D := D) (ci := 4) (v := .ref tb) (C := R_Receiver) (T := F_Receiver) (N := 5) hx hb hts i_Receiver hown hK hP 0 rfl rfl 2 (by decide) (hts _ wd_179) (fun _ h9 => h9) rfl d_Receiver_beginPiece_207 ?_
                refine lv_aload_n hx hb d_Receiver_beginPiece_210 rfl (lv_at hl 6 rfl) ?_
                refine va_getN (D := D) (ci := 1) (v := .int (nI pid)) (C := R_Lane) (T := F_Lane) (N := 8) hx hb hts i_Lane hown hK hP 3 rfl rfl 0 (by decide) (hts _ wd_244) (fun _ h9 => h9) rfl d_Receiver_beginPiece_211 ?_
                refine lv_lload hx hb d_Receiver_beginPiece_214 (lv_at hl 0 rfl) ?_
                obtain ⟨q9, hq9⟩ : ∃ q9 : Nat, ([(rv, .inr (4, [.ref tp, .ref ln, .ref tb, .ref ca, .ref dp])), (tp, .inr (0, [.ref a, .int (nI n)])), (a, .inl (cB, 9400, .inl f)), (la, .inr (1, [.int (nI pid), va_rf nx, .int ct, .int tw, .long ck, .int wr, .ref sq.1, .ref pq.1])), (sq.1, .inr (0, [.ref sq.2.1, .int (nI sq.2.2.1)])), (sq.2.1, .inl (cB, 1024, .inl sq.2.2.2)), (pq.1, .inr (3, [.int 1, .int (nI pid), .int (nI (rbN f n 9400 (k + 3))), .long (bpZ f n k), .int 0, .int 0, .int (bpU f n k)]))] ++ (tplr cO e0 tb lv pr P.length pmo pst P ++ Q))[q9]? = some (tb, .inr (8, [.int lv, .ref pr])) := ⟨7, rfl⟩
                have hPc := hP.part (cx := []) [] rfl
                have hKc := hK.sub (tys' := [(cO, .object "java/lang/Object")]) [1] rfl
                have hDc := hD.part (cx := []) [] (by decide) rfl
                have hFc := va_freeP (cx := []) hD hS hA [] rfl
                refine va_callv (va_runV (As := [.int (nI pid), .long (bpZ f n k)]) (rest := []) ⟨hx, hb, hml, hown, hts⟩ (c_Tables_moveNow l D B0 hG H.size cO e0 tb pr lv pmo pst P Q pid (bpZ f n k) he0 (tok_mono htk hIm) hpid) (z_cV hN wd_407 wd_63 wd_404 hd_Tables_moveNow rfl rfl ⟨Nat.le_of_ble_eq_true rfl, Nat.le_of_ble_eq_true rfl⟩ wd_405 wd_406) (z_preVo (va_recv (ci := 8) (q0 := q9) hK hP rfl hq9) hPc hKc hN hDc hO hS hAO) rfl rfl hl.1 rfl (lv_room (Nat.le_of_ble_eq_true rfl)) d_Receiver_beginPiece_216 ⟨Nat.le_of_ble_eq_true rfl, Nat.le_of_ble_eq_true rfl⟩) hS (fun q _ h => hFc q h) hFc (fun m9 t H locs ht hvm e216 hB hz1 hk1 hS => ?_)
                obtain ⟨hP1, hK1, hD1⟩ := hB
                rw [ht] at hP1
                obtain ⟨hP, hD⟩ := va_joinP (wr := [(rv, .inr (4, [.ref tp, .ref ln, .ref tb, .ref ca, .ref dp])), (tp, .inr (0, [.ref a, .int (nI n)])), (a, .inl (cB, 9400, .inl f)), (la, .inr (1, [.int (nI pid), va_rf nx, .int ct, .int tw, .long ck, .int wr, .ref sq.1, .ref pq.1])), (sq.1, .inr (0, [.ref sq.2.1, .int (nI sq.2.2.1)])), (sq.2.1, .inl (cB, 1024, .inl sq.2.2.2)), (pq.1, .inr (3, [.int 1, .int (nI pid), .int (nI (rbN f n 9400 (k + 3))), .long (bpZ f n k), .int 0, .int 0, .int (bpU f n k)]))]) (rx := []) hP hD [] [0, 1, 2, 3, 4, 5, 6] rfl rfl (by decide) (by decide) hk1 hFc hP1 hD1
                clear hk1 hP1 hD1 hFc hPc hDc hz1
                have hP : va_P D classes ([(rv, .inr (4, [.ref tp, .ref ln, .ref tb, .ref ca, .ref dp])), (tp, .inr (0, [.ref a, .int (nI n)])), (a, .inl (cB, 9400, .inl f)), (la, .inr (1, [.int (nI pid), va_rf nx, .int ct, .int tw, .long ck, .int wr, .ref sq.1, .ref pq.1])), (sq.1, .inr (0, [.ref sq.2.1, .int (nI sq.2.2.1)])), (sq.2.1, .inl (cB, 1024, .inl sq.2.2.2)), (pq.1, .inr (3, [.int 1, .int (nI pid), .int (nI (rbN f n 9400 (k + 3))), .long (bpZ f n k), .int 0, .int 0, .int (bpU f n k)]))] ++ (tplr cO e0 tb lv pr P.length pmo pst m9.1 ++ (m9.2 ++ Q))) H := hP
                have hD : va_D A ([(rv, .inr (4, [.ref tp, .ref ln, .ref tb, .ref ca, .ref dp])), (tp, .inr (0, [.ref a, .int (nI n)])), (a, .inl (cB, 9400, .inl f)), (la, .inr (1, [.int (nI pid), va_rf nx, .int ct, .int tw, .long ck, .int wr, .ref sq.1, .ref pq.1])), (sq.1, .inr (0, [.ref sq.2.1, .int (nI sq.2.2.1)])), (sq.2.1, .inl (cB, 1024, .inl sq.2.2.2)), (pq.1, .inr (3, [.int 1, .int (nI pid), .int (nI (rbN f n 9400 (k + 3))), .long (bpZ f n k), .int 0, .int 0, .int (bpU f n k)]))] ++ (tplr cO e0 tb lv pr P.length pmo pst m9.1 ++ (m9.2 ++ Q))) := hD
                refine lv_iload hx hb d_Receiver_beginPiece_219 (lv_at hl 3 rfl) ?_
                have hP : va_P D classes ([(rv, .inr (4, [.ref tp, .ref ln, .ref tb, .ref ca, .ref dp])), (tp, .inr (0, [.ref a, .int (nI n)])), (a, .inl (cB, 9400, .inl f))] ++ (lzc cB (la, pid, nx, ct, tw, ck, wr, (some sq), some (pq.1, 1, nI pid, nI (rbN f n 9400 (k + 3)), bpZ f n k, 0, 0, bpU f n k)) ++ (tplr cO e0 tb lv pr P.length pmo pst m9.1 ++ (m9.2 ++ Q)))) H := hP
                have hD : va_D A ([(rv, .inr (4, [.ref tp, .ref ln, .ref tb, .ref ca, .ref dp])), (tp, .inr (0, [.ref a, .int (nI n)])), (a, .inl (cB, 9400, .inl f))] ++ (lzc cB (la, pid, nx, ct, tw, ck, wr, (some sq), some (pq.1, 1, nI pid, nI (rbN f n 9400 (k + 3)), bpZ f n k, 0, 0, bpU f n k)) ++ (tplr cO e0 tb lv pr P.length pmo pst m9.1 ++ (m9.2 ++ Q)))) := hD
                have hP9 := hP.part (cx := [(rv, .inr (4, [.ref tp, .ref ln, .ref tb, .ref ca, .ref dp])), (tp, .inr (0, [.ref a, .int (nI n)])), (a, .inl (cB, 9400, .inl f))]) [0, 1, 2] rfl
                have hD9 := hD.part (cx := [(rv, .inr (4, [.ref tp, .ref ln, .ref tb, .ref ca, .ref dp])), (tp, .inr (0, [.ref a, .int (nI n)])), (a, .inl (cB, 9400, .inl f))]) [0, 1, 2] (by decide) rfl
                have hK9 := hK.sub (tys' := [(cB, .byte), (cO, .object "java/lang/Object")]) [0, 1] rfl
                refine W.widen (k := 25) (n := 175) (by omega) (by omega) ?_
                exact W.iret (v := (nI (k + 9 + bpE f n k))) hx hb hr (fun t ht hW => ⟨⟨_, (some (pq.1, 1, nI pid, nI (rbN f n 9400 (k + 3)), bpZ f n k, 0, 0, bpU f n k), m9.1, m9.2), rfl, ⟨Or.inr ⟨⟨h25, h43, h61, hokt⟩, rfl, (⟨pq.1, fun q hq => (by cases hq; rfl), rfl⟩), Or.inl ⟨hmm, by rw [← hzz]; exact e216.1⟩⟩, mn_tok htk e216.1 e216.2⟩, ⟨by rw [ht]; exact hP9, va_K.moved hW.alike hK9, hD9⟩⟩, hS.F ht⟩) hS.2.2 d_Receiver_beginPiece_221
        · have h104 : ¬ bpT f n k = 0 := mt (nI_eq (b := 0) (by omega) (by omega)).mpr h104
          refine lv_iload hx hb d_Receiver_beginPiece_107 (lv_at hl 0 rfl) ?_
          refine lv_if_ge (tgt := 114) hx hb d_Receiver_beginPiece_109 rfl (fun h109 => ?_) (fun h109 => ?_)
          · have hokt : bpT f n k = 0 ∨ ¬ bpU f n k < 0 := Or.inr (Int32.not_lt.mpr h109)
            refine lv_aload_n hx hb d_Receiver_beginPiece_114 rfl (lv_at hl 4 rfl) ?_
            refine va_get (D := D) (ci := 4) (v := .ref tp) (C := R_Receiver) (T := F_Receiver) (N := 5) hx hb hts i_Receiver hown hK hP 0 rfl rfl 0 (by decide) (hts _ wd_175) (fun _ h9 => h9) rfl d_Receiver_beginPiece_115 ?_
            refine lv_iload_n hx hb d_Receiver_beginPiece_118 rfl (lv_at hl 6 rfl) ?_
            refine lv_bipush (v := 7) hx hb d_Receiver_beginPiece_119 (by decide) ?_
            refine lv_iadd hx hb d_Receiver_beginPiece_121 ?_
            refine z_topi (w := nI (k + 7)) (nI_add _ 7) ?_
            have hPc := hP.sub (ws' := [(tp, .inr (0, [.ref a, .int (nI n)])), (a, .inl (cB, 9400, .inl f))]) [1, 2] rfl
            have hKc := hK.sub (tys' := [(cB, .byte)]) [0] rfl
            refine z_ci (va_runV (As := [.int (nI (k + 7))]) (rest := []) ⟨hx, hb, hml, hown, hts⟩ (c_Row_at l D cB tp a n 9400 f (nI (k + 7)) (by omega)) (z_cV hN wd_212 wd_61 wd_221 hd_Row_at rfl rfl ⟨Nat.le_of_ble_eq_true rfl, Nat.le_of_ble_eq_true rfl⟩ wd_210 wd_211) (z_preV (va_recv (ci := 0) (q0 := 1) hK hP rfl rfl) hPc hKc hN) rfl rfl hl.1 rfl (lv_room (Nat.le_of_ble_eq_true rfl)) d_Receiver_beginPiece_122 ⟨Nat.le_of_ble_eq_true rfl, Nat.le_of_ble_eq_true rfl⟩) (fun r122 e122 => ?_)
            refine z_topi (w := rw_at f n 9400 (nI (k + 7))) e122 ?_
            refine z_topi (w := nI (rbN f n 9400 (k + 7))) (rb_eq _ _ _ _) ?_
            refine lv_bipush (v := 6) hx hb d_Receiver_beginPiece_125 (by decide) ?_
            refine lv_ishr hx hb d_Receiver_beginPiece_127 ?_
            refine z_topi (w := nI (rbN f n 9400 (k + 7) / 64)) (bp_sh6 _ (rb_lt _ _ _ _)) ?_
            refine lv_iconst (v := 2) hx hb d_Receiver_beginPiece_128 (by decide) ?_
            suffices key129 : W p l e ({ frames := 8, cells := 25, slots := 175, locals := 170 }) s m ([.ref rv, .ref la, .int (nI k), .int (nI te)]).toArray below meth cd s.heap [] 0 0 (MQ below (va_Qi (fun r (u : BU9) => bpP f n k te pid pi P r u ∧ tok (u.2.2 ++ Im) cO pst u.2.1) (fun (u : BU9) t => zW D (A) ([(rv, .inr (4, [.ref tp, .ref ln, .ref tb, .ref ca, .ref dp])), (tp, .inr (0, [.ref a, .int (nI n)])), (a, .inl (cB, 9400, .inl f))] ++ (lzc cB (la, pid, nx, ct, tw, ck, wr, se, u.1) ++ (tplr cO e0 tb lv pr P.length pmo pst u.2.1 ++ (u.2.2 ++ Q)))) [(cB, .byte), (cO, .object "java/lang/Object")] t) (A)) ([.ref rv, .ref la, .int (nI k), .int (nI te)]).toArray s 25 175 (A)) (F0 m 152 ls [.long (bpZ f n k)]) by
              refine lv_icmp_lt (tgt := 149) hx hb d_Receiver_beginPiece_129 rfl (fun h129 => ?_) (fun h129 => ?_)
              · refine lv_ldc2 hx hb hown (hts _ wd_399) d_Receiver_beginPiece_149 ?_
                refine z_topl (w := (bpZ f n k)) (bz_0 h129) ?_
                exact key129
              · refine lv_iload hx hb d_Receiver_beginPiece_132 (lv_at hl 3 rfl) ?_
                refine lv_iconst (v := 5) hx hb d_Receiver_beginPiece_134 (by decide) ?_
                refine lv_icmp_lt (tgt := 149) hx hb d_Receiver_beginPiece_135 rfl (fun h135 => ?_) (fun h135 => ?_)
                · refine lv_ldc2 hx hb hown (hts _ wd_399) d_Receiver_beginPiece_149 ?_
                  refine z_topl (w := (bpZ f n k)) (by first | exact bz_1 h129 h135 | exact bz_2 h135 | (rw [e143]; exact bz_1 h129 h135)) ?_
                  exact key129
                · refine lv_aload_n hx hb d_Receiver_beginPiece_138 rfl (lv_at hl 4 rfl) ?_
                  refine lv_iload_n hx hb d_Receiver_beginPiece_139 rfl (lv_at hl 6 rfl) ?_
                  refine lv_bipush (v := 9) hx hb d_Receiver_beginPiece_140 (by decide) ?_
                  refine lv_iadd hx hb d_Receiver_beginPiece_142 ?_
                  refine z_topi (w := nI (k + 9)) (nI_add _ 9) ?_
                  have hPc := hP.sub (ws' := [(rv, .inr (4, [.ref tp, .ref ln, .ref tb, .ref ca, .ref dp])), (tp, .inr (0, [.ref a, .int (nI n)])), (a, .inl (cB, 9400, .inl f))]) [0, 1, 2] rfl
                  have hKc := hK.sub (tys' := [(cB, .byte)]) [0] rfl
                  refine z_cl (va_runV (As := [.int (nI (k + 9))]) (rest := []) ⟨hx, hb, hml, hown, hts⟩ (c_Receiver_timeAt l D cB rv tp ln tb ca dp a n 9400 f (k + 9) (by omega) (by omega)) (z_cV hN wd_398 wd_60 wd_395 hd_Receiver_timeAt rfl rfl ⟨Nat.le_of_ble_eq_true rfl, Nat.le_of_ble_eq_true rfl⟩ wd_397 wd_9) (z_preV (va_recv (ci := 4) (q0 := 0) hK hP rfl rfl) hPc hKc hN) rfl rfl hl.1 rfl (lv_room (Nat.le_of_ble_eq_true rfl)) d_Receiver_beginPiece_143 ⟨Nat.le_of_ble_eq_true rfl, Nat.le_of_ble_eq_true rfl⟩) (fun r143 e143 => ?_)
                  refine z_topl (w := ((rw_bits f n 9400 (8 * (k + 9) + 4) 3 <<< ((30 : Int32).toInt64 &&& 63)) ||| (rw_bits f n 9400 (8 * (k + 9) + 8) 15 <<< ((15 : Int32).toInt64 &&& 63))) ||| rw_bits f n 9400 (8 * (k + 9) + 24) 15) e143 ?_
                  refine lv_goto (tgt := 152) hx hb d_Receiver_beginPiece_146 rfl ?_
                  refine z_topl (w := (bpZ f n k)) (by first | exact bz_1 h129 h135 | exact bz_2 h135 | (rw [e143]; exact bz_1 h129 h135)) ?_
                  exact key129
            refine lv_lstore (lv' := [(8, .long (bpZ f n k)), (7, .int (bpU f n k)), (6, .int (nI (bpT f n k))), (5, .int (nI (k + 9 + bpE f n k))), (4, .int (nI (rbN f n 9400 (k + 8)))), (0, .ref rv), (1, .ref la), (2, .int (nI k)), (3, .int (nI te))]) hx hb d_Receiver_beginPiece_152 hl (by decide) rfl (fun ls hl => ?_)
            cases se with
            | none =>
              cases pi with
              | none =>
                have hP : va_P D classes ([(rv, .inr (4, [.ref tp, .ref ln, .ref tb, .ref ca, .ref dp])), (tp, .inr (0, [.ref a, .int (nI n)])), (a, .inl (cB, 9400, .inl f)), (la, .inr (1, [.int (nI pid), va_rf nx, .int ct, .int tw, .long ck, .int wr, .null, .null]))] ++ (tplr cO e0 tb lv pr P.length pmo pst P ++ Q)) s.heap := hP
                have hD : va_D A ([(rv, .inr (4, [.ref tp, .ref ln, .ref tb, .ref ca, .ref dp])), (tp, .inr (0, [.ref a, .int (nI n)])), (a, .inl (cB, 9400, .inl f)), (la, .inr (1, [.int (nI pid), va_rf nx, .int ct, .int tw, .long ck, .int wr, .null, .null]))] ++ (tplr cO e0 tb lv pr P.length pmo pst P ++ Q)) := hD
                refine lv_aload_n hx hb d_Receiver_beginPiece_154 rfl (lv_at hl 6 rfl) ?_
                refine va_getN (D := D) (ci := 1) (v := .null) (C := R_Lane) (T := F_Lane) (N := 8) hx hb hts i_Lane hown hK hP 3 rfl rfl 7 (by decide) (hts _ wd_258) (fun _ h9 => h9) rfl d_Receiver_beginPiece_155 ?_
                refine lv_ifnonnullN hx hb d_Receiver_beginPiece_158 ?_
                refine lv_aload_n hx hb d_Receiver_beginPiece_161 rfl (lv_at hl 6 rfl) ?_
                refine va_new (ci := 3) (fs := [.int 0, .int 0, .int 0, .long 0, .int 0, .int 0, .int 0]) (C := R_Piece) (T := F_Piece) (N := 7) hx hb hts i_Piece t_Piece t_Piece_ok hown (hts _ wd_173) (hts _ wd_352) (hts _ wd_77) hK hP hD hS hA rfl (fs_Piece) (by show 0 + 1 ≤ 25; omega) (by show 0 + 7 ≤ 175; omega) d_Receiver_beginPiece_162 (fun q162 H hP hD hS => ?_)
                have hP := hP.swap
                have hD := hD.swap
                have hP : va_P D classes ([(rv, .inr (4, [.ref tp, .ref ln, .ref tb, .ref ca, .ref dp])), (tp, .inr (0, [.ref a, .int (nI n)])), (a, .inl (cB, 9400, .inl f)), (la, .inr (1, [.int (nI pid), va_rf nx, .int ct, .int tw, .long ck, .int wr, .null, .null])), (q162, .inr (3, [.int 0, .int 0, .int 0, .long 0, .int 0, .int 0, .int 0]))] ++ (tplr cO e0 tb lv pr P.length pmo pst P ++ Q)) H := hP
                have hD : va_D A ([(rv, .inr (4, [.ref tp, .ref ln, .ref tb, .ref ca, .ref dp])), (tp, .inr (0, [.ref a, .int (nI n)])), (a, .inl (cB, 9400, .inl f)), (la, .inr (1, [.int (nI pid), va_rf nx, .int ct, .int tw, .long ck, .int wr, .null, .null])), (q162, .inr (3, [.int 0, .int 0, .int 0, .long 0, .int 0, .int 0, .int 0]))] ++ (tplr cO e0 tb lv pr P.length pmo pst P ++ Q)) := hD
                refine lv_dup hx hb d_Receiver_beginPiece_165 rfl ?_
                have hPc := hP.sub (ws' := [(q162, .inr (3, [.int 0, .int 0, .int 0, .long 0, .int 0, .int 0, .int 0]))]) [4] rfl
                have hKc := hK.sub (tys' := []) [] rfl
                have hDc := hD.sub (ws' := [(q162, .inr (3, [.int 0, .int 0, .int 0, .long 0, .int 0, .int 0, .int 0]))]) [4] (by decide) rfl
                have hFc := va_free (wc := [(q162, .inr (3, [.int 0, .int 0, .int 0, .long 0, .int 0, .int 0, .int 0]))]) hD hS hA [4] rfl
                refine va_callv (va_runIN (As := []) (rest := [.ref q162, .ref la]) ⟨hx, hb, hml, hown, hts⟩ (c_Piece_init l D H.size q162 0 0 0 0 0 0 0 ) (z_cIn hN wd_355 wd_77 wd_353 hd_Piece_init rfl rfl ⟨Nat.le_of_ble_eq_true rfl, Nat.le_of_ble_eq_true rfl⟩ wd_354 rfl) (z_preSm hPc hKc hN hDc) rfl rfl hl.1 rfl (lv_room (Nat.le_of_ble_eq_true rfl)) d_Receiver_beginPiece_166 ⟨Nat.le_of_ble_eq_true rfl, Nat.le_of_ble_eq_true rfl⟩) hS (fun q _ h => hFc q h) hFc (fun u166 t H locs ht hvm e166 hB hz1 hk1 hS => ?_)
                obtain ⟨hP1, hK1, hD1⟩ := hB
                rw [ht] at hP1
                obtain ⟨hP, hD⟩ := va_joinQ (cx := [(q162, .inr (3, [.int 0, .int 0, .int 0, .long 0, .int 0, .int 0, .int 0]))]) (wr := [(rv, .inr (4, [.ref tp, .ref ln, .ref tb, .ref ca, .ref dp])), (tp, .inr (0, [.ref a, .int (nI n)])), (a, .inl (cB, 9400, .inl f)), (la, .inr (1, [.int (nI pid), va_rf nx, .int ct, .int tw, .long ck, .int wr, .null, .null]))]) (w1 := [(q162, .inr (3, [.int 0, .int 0, .int 0, .long 0, .int 0, .int 0, .int 0]))]) hP hD [4] [0, 1, 2, 3] rfl rfl (by decide) (by decide) hk1 hFc hP1 hD1
                clear hk1 hP1 hD1 hFc hPc hDc hz1
                have hP : va_P D classes ([(rv, .inr (4, [.ref tp, .ref ln, .ref tb, .ref ca, .ref dp])), (tp, .inr (0, [.ref a, .int (nI n)])), (a, .inl (cB, 9400, .inl f)), (la, .inr (1, [.int (nI pid), va_rf nx, .int ct, .int tw, .long ck, .int wr, .null, .null])), (q162, .inr (3, [.int 0, .int 0, .int 0, .long 0, .int 0, .int 0, .int 0]))] ++ (tplr cO e0 tb lv pr P.length pmo pst P ++ Q)) H := hP
                have hD : va_D A ([(rv, .inr (4, [.ref tp, .ref ln, .ref tb, .ref ca, .ref dp])), (tp, .inr (0, [.ref a, .int (nI n)])), (a, .inl (cB, 9400, .inl f)), (la, .inr (1, [.int (nI pid), va_rf nx, .int ct, .int tw, .long ck, .int wr, .null, .null])), (q162, .inr (3, [.int 0, .int 0, .int 0, .long 0, .int 0, .int 0, .int 0]))] ++ (tplr cO e0 tb lv pr P.length pmo pst P ++ Q)) := hD
                refine va_putN (D := D) (ci := 1) (v := .ref q162) (ty := (.object "StreamSplitter$Piece")) (C := R_Lane) (T := F_Lane) (N := 8) hx hb hts i_Lane t_Lane t_Lane_ok n_Lane hown hK hP hD hS 3 rfl rfl 7 (by decide) (hts _ wd_258) (fun _ h9 => h9) rfl (by decide +kernel) rfl rfl (Nat.le_of_ble_eq_true rfl) d_Receiver_beginPiece_169 (fun H locs hP hD hS => ?_)
                have hP : va_P D classes ([(rv, .inr (4, [.ref tp, .ref ln, .ref tb, .ref ca, .ref dp])), (tp, .inr (0, [.ref a, .int (nI n)])), (a, .inl (cB, 9400, .inl f)), (la, .inr (1, [.int (nI pid), va_rf nx, .int ct, .int tw, .long ck, .int wr, .null, .ref q162])), (q162, .inr (3, [.int 0, .int 0, .int 0, .long 0, .int 0, .int 0, .int 0]))] ++ (tplr cO e0 tb lv pr P.length pmo pst P ++ Q)) H := hP
                have hD : va_D A ([(rv, .inr (4, [.ref tp, .ref ln, .ref tb, .ref ca, .ref dp])), (tp, .inr (0, [.ref a, .int (nI n)])), (a, .inl (cB, 9400, .inl f)), (la, .inr (1, [.int (nI pid), va_rf nx, .int ct, .int tw, .long ck, .int wr, .null, .ref q162])), (q162, .inr (3, [.int 0, .int 0, .int 0, .long 0, .int 0, .int 0, .int 0]))] ++ (tplr cO e0 tb lv pr P.length pmo pst P ++ Q)) := hD
                refine lv_aload_n hx hb d_Receiver_beginPiece_172 rfl (lv_at hl 6 rfl) ?_
                refine va_getN (D := D) (ci := 1) (v := .ref q162) (C := R_Lane) (T := F_Lane) (N := 8) hx hb hts i_Lane hown hK hP 3 rfl rfl 7 (by decide) (hts _ wd_258) (fun _ h9 => h9) rfl d_Receiver_beginPiece_173 ?_
                refine lv_aload_n hx hb d_Receiver_beginPiece_176 rfl (lv_at hl 6 rfl) ?_
                refine va_getN (D := D) (ci := 1) (v := .int (nI pid)) (C := R_Lane) (T := F_Lane) (N := 8) hx hb hts i_Lane hown hK hP 3 rfl rfl 0 (by decide) (hts _ wd_244) (fun _ h9 => h9) rfl d_Receiver_beginPiece_177 ?_
                refine lv_aload_n hx hb d_Receiver_beginPiece_180 rfl (lv_at hl 5 rfl) ?_
                refine va_get (D := D) (ci := 4) (v := .ref tp) (C := R_Receiver) (T := F_Receiver) (N := 5) hx hb hts i_Receiver hown hK hP 0 rfl rfl 0 (by decide) (hts _ wd_175) (fun _ h9 => h9) rfl d_Receiver_beginPiece_181 ?_
                refine lv_iload_n hx hb d_Receiver_beginPiece_184 rfl (lv_at hl 7 rfl) ?_
                refine lv_iconst (v := 3) hx hb d_Receiver_beginPiece_185 (by decide) ?_
                refine lv_iadd hx hb d_Receiver_beginPiece_186 ?_
                refine z_topi (w := nI (k + 3)) (nI_add _ 3) ?_
                have hPc := hP.sub (ws' := [(tp, .inr (0, [.ref a, .int (nI n)])), (a, .inl (cB, 9400, .inl f))]) [1, 2] rfl
                have hKc := hK.sub (tys' := [(cB, .byte)]) [0] rfl
                refine z_ci (va_runV (As := [.int (nI (k + 3))]) (rest := [.int (nI pid), .ref q162]) ⟨hx, hb, hml, hown, hts⟩ (c_Row_at l D cB tp a n 9400 f (nI (k + 3)) (by omega)) (z_cV hN wd_212 wd_61 wd_221 hd_Row_at rfl rfl ⟨Nat.le_of_ble_eq_true rfl, Nat.le_of_ble_eq_true rfl⟩ wd_210 wd_211) (z_preV (va_recv (ci := 0) (q0 := 1) hK hP rfl rfl) hPc hKc hN) rfl rfl hl.1 rfl (lv_room (Nat.le_of_ble_eq_true rfl)) d_Receiver_beginPiece_187 ⟨Nat.le_of_ble_eq_true rfl, Nat.le_of_ble_eq_true rfl⟩) (fun r187 e187 => ?_)
                refine z_topi (w := rw_at f n 9400 (nI (k + 3))) e187 ?_
                refine z_topi (w := nI (rbN f n 9400 (k + 3))) (rb_eq _ _ _ _) ?_
                refine lv_lload hx hb d_Receiver_beginPiece_190 (lv_at hl 0 rfl) ?_
                refine lv_iload hx hb d_Receiver_beginPiece_192 (lv_at hl 1 rfl) ?_
                have hPc := hP.sub (ws' := [(q162, .inr (3, [.int 0, .int 0, .int 0, .long 0, .int 0, .int 0, .int 0]))]) [4] rfl
                have hKc := hK.sub (tys' := []) [] rfl
                have hDc := hD.sub (ws' := [(q162, .inr (3, [.int 0, .int 0, .int 0, .long 0, .int 0, .int 0, .int 0]))]) [4] (by decide) rfl
                have hFc := va_free (wc := [(q162, .inr (3, [.int 0, .int 0, .int 0, .long 0, .int 0, .int 0, .int 0]))]) hD hS hA [4] rfl
                refine va_callv (va_runV (As := [.int (nI pid), .int (nI (rbN f n 9400 (k + 3))), .long (bpZ f n k), .int (bpU f n k)]) (rest := []) ⟨hx, hb, hml, hown, hts⟩ (c_Piece_begin l D H.size q162 0 0 0 0 0 0 0 (nI pid) (nI (rbN f n 9400 (k + 3))) (bpU f n k) (bpZ f n k) ) (z_cV hN wd_403 wd_77 wd_400 hd_Piece_begin rfl rfl ⟨Nat.le_of_ble_eq_true rfl, Nat.le_of_ble_eq_true rfl⟩ wd_401 wd_402) (z_preVm (va_recv (ci := 3) (q0 := 4) hK hP rfl rfl) hPc hKc hN hDc) rfl rfl hl.1 rfl (lv_room (Nat.le_of_ble_eq_true rfl)) d_Receiver_beginPiece_194 ⟨Nat.le_of_ble_eq_true rfl, Nat.le_of_ble_eq_true rfl⟩) hS (fun q _ h => hFc q h) hFc (fun u194 t H locs ht hvm e194 hB hz1 hk1 hS => ?_)
                obtain ⟨hP1, hK1, hD1⟩ := hB
                rw [ht] at hP1
                obtain ⟨hP, hD⟩ := va_joinQ (cx := [(q162, .inr (3, [.int 0, .int 0, .int 0, .long 0, .int 0, .int 0, .int 0]))]) (wr := [(rv, .inr (4, [.ref tp, .ref ln, .ref tb, .ref ca, .ref dp])), (tp, .inr (0, [.ref a, .int (nI n)])), (a, .inl (cB, 9400, .inl f)), (la, .inr (1, [.int (nI pid), va_rf nx, .int ct, .int tw, .long ck, .int wr, .null, .ref q162]))]) (w1 := [(q162, .inr (3, [.int 1, .int (nI pid), .int (nI (rbN f n 9400 (k + 3))), .long (bpZ f n k), .int 0, .int 0, .int (bpU f n k)]))]) hP hD [4] [0, 1, 2, 3] rfl rfl (by decide) (by decide) hk1 hFc hP1 hD1
                clear hk1 hP1 hD1 hFc hPc hDc hz1
                have hP : va_P D classes ([(rv, .inr (4, [.ref tp, .ref ln, .ref tb, .ref ca, .ref dp])), (tp, .inr (0, [.ref a, .int (nI n)])), (a, .inl (cB, 9400, .inl f)), (la, .inr (1, [.int (nI pid), va_rf nx, .int ct, .int tw, .long ck, .int wr, .null, .ref q162])), (q162, .inr (3, [.int 1, .int (nI pid), .int (nI (rbN f n 9400 (k + 3))), .long (bpZ f n k), .int 0, .int 0, .int (bpU f n k)]))] ++ (tplr cO e0 tb lv pr P.length pmo pst P ++ Q)) H := hP
                have hD : va_D A ([(rv, .inr (4, [.ref tp, .ref ln, .ref tb, .ref ca, .ref dp])), (tp, .inr (0, [.ref a, .int (nI n)])), (a, .inl (cB, 9400, .inl f)), (la, .inr (1, [.int (nI pid), va_rf nx, .int ct, .int tw, .long ck, .int wr, .null, .ref q162])), (q162, .inr (3, [.int 1, .int (nI pid), .int (nI (rbN f n 9400 (k + 3))), .long (bpZ f n k), .int 0, .int 0, .int (bpU f n k)]))] ++ (tplr cO e0 tb lv pr P.length pmo pst P ++ Q)) := hD
                refine lv_lload hx hb d_Receiver_beginPiece_197 (lv_at hl 0 rfl) ?_
                refine lv_ldc2 hx hb hown (hts _ wd_399) d_Receiver_beginPiece_199 ?_
                refine W.lcmp hx hb d_Receiver_beginPiece_202 ?_
                refine lv_if_eq (tgt := 219) hx hb d_Receiver_beginPiece_203 rfl (fun h203 => ?_) (fun h203 => ?_)
                · have h203 : bpZ f n k = -1 := (lg_cmp_eq _ _).mp h203
                  have hnm : ¬ bpM f n k := fun z9 => by unfold bpZ at h203; rw [if_pos z9] at h203; exact tm_ne _ (tmN_lt _ _ _) h203
                  refine lv_iload hx hb d_Receiver_beginPiece_219 (lv_at hl 3 rfl) ?_
                  have hP : va_P D classes ([(rv, .inr (4, [.ref tp, .ref ln, .ref tb, .ref ca, .ref dp])), (tp, .inr (0, [.ref a, .int (nI n)])), (a, .inl (cB, 9400, .inl f))] ++ (lzc cB (la, pid, nx, ct, tw, ck, wr, none, some (q162, 1, nI pid, nI (rbN f n 9400 (k + 3)), bpZ f n k, 0, 0, bpU f n k)) ++ (tplr cO e0 tb lv pr P.length pmo pst P ++ ([] ++ Q)))) H := hP
                  have hD : va_D A ([(rv, .inr (4, [.ref tp, .ref ln, .ref tb, .ref ca, .ref dp])), (tp, .inr (0, [.ref a, .int (nI n)])), (a, .inl (cB, 9400, .inl f))] ++ (lzc cB (la, pid, nx, ct, tw, ck, wr, none, some (q162, 1, nI pid, nI (rbN f n 9400 (k + 3)), bpZ f n k, 0, 0, bpU f n k)) ++ (tplr cO e0 tb lv pr P.length pmo pst P ++ ([] ++ Q)))) := hD
                  have hP9 := hP.part (cx := [(rv, .inr (4, [.ref tp, .ref ln, .ref tb, .ref ca, .ref dp])), (tp, .inr (0, [.ref a, .int (nI n)])), (a, .inl (cB, 9400, .inl f))]) [0, 1, 2] rfl
                  have hD9 := hD.part (cx := [(rv, .inr (4, [.ref tp, .ref ln, .ref tb, .ref ca, .ref dp])), (tp, .inr (0, [.ref a, .int (nI n)])), (a, .inl (cB, 9400, .inl f))]) [0, 1, 2] (by decide) rfl
                  have hK9 := hK.sub (tys' := [(cB, .byte), (cO, .object "java/lang/Object")]) [0, 1] rfl
                  refine W.widen (k := 25) (n := 175) (by omega) (by omega) ?_
                  exact W.iret (v := (nI (k + 9 + bpE f n k))) hx hb hr (fun t ht hW => ⟨⟨_, (some (q162, 1, nI pid, nI (rbN f n 9400 (k + 3)), bpZ f n k, 0, 0, bpU f n k), P, []), rfl, ⟨Or.inr ⟨⟨h25, h43, h61, hokt⟩, rfl, (⟨q162, fun q hq => (by cases hq), rfl⟩), Or.inr ⟨hnm, rfl⟩⟩, htk⟩, ⟨by rw [ht]; exact hP9, va_K.moved hW.alike hK9, hD9⟩⟩, hS.F ht⟩) hS.2.2 d_Receiver_beginPiece_221
                · have h203 : ¬ bpZ f n k = -1 := mt (lg_cmp_eq _ _).mpr h203
                  have hmm : bpM f n k := by apply Decidable.byContradiction; intro z9; exact h203 (by unfold bpZ; rw [if_neg z9])
                  have hzz : bpZ f n k = lN (tmN f n (k + 9)) := by unfold bpZ; rw [if_pos hmm]
                  refine lv_aload_n hx hb d_Receiver_beginPiece_206 rfl (lv_at hl 5 rfl) ?_
                  refine va_get (D := D) (ci := 4) (v := .ref tb) (C := R_Receiver) (T := F_Receiver) (N := 5) hx hb hts i_Receiver hown hK hP 0 rfl rfl 2 (by decide) (hts _ wd_179) (fun _ h9 => h9) rfl d_Receiver_beginPiece_207 ?_
                  refine lv_aload_n hx hb d_Receiver_beginPiece_210 rfl (lv_at hl 6 rfl) ?_
                  refine va_getN (D := D) (ci := 1) (v := .int (nI pid)) (C := R_Lane) (T := F_Lane) (N := 8) hx hb hts i_Lane hown hK hP 3 rfl rfl 0 (by decide) (hts _ wd_244) (fun _ h9 => h9) rfl d_Receiver_beginPiece_211 ?_
                  refine lv_lload hx hb d_Receiver_beginPiece_214 (lv_at hl 0 rfl) ?_
                  obtain ⟨q9, hq9⟩ : ∃ q9 : Nat, ([(rv, .inr (4, [.ref tp, .ref ln, .ref tb, .ref ca, .ref dp])), (tp, .inr (0, [.ref a, .int (nI n)])), (a, .inl (cB, 9400, .inl f)), (la, .inr (1, [.int (nI pid), va_rf nx, .int ct, .int tw, .long ck, .int wr, .null, .ref q162])), (q162, .inr (3, [.int 1, .int (nI pid), .int (nI (rbN f n 9400 (k + 3))), .long (bpZ f n k), .int 0, .int 0, .int (bpU f n k)]))] ++ (tplr cO e0 tb lv pr P.length pmo pst P ++ Q))[q9]? = some (tb, .inr (8, [.int lv, .ref pr])) := ⟨5, rfl⟩
                  have hPc := hP.part (cx := []) [] rfl
                  have hKc := hK.sub (tys' := [(cO, .object "java/lang/Object")]) [1] rfl
                  have hDc := hD.part (cx := []) [] (by decide) rfl
                  have hFc := va_freeP (cx := []) hD hS hA [] rfl
                  refine va_callv (va_runV (As := [.int (nI pid), .long (bpZ f n k)]) (rest := []) ⟨hx, hb, hml, hown, hts⟩ (c_Tables_moveNow l D B0 hG H.size cO e0 tb pr lv pmo pst P Q pid (bpZ f n k) he0 (tok_mono htk hIm) hpid) (z_cV hN wd_407 wd_63 wd_404 hd_Tables_moveNow rfl rfl ⟨Nat.le_of_ble_eq_true rfl, Nat.le_of_ble_eq_true rfl⟩ wd_405 wd_406) (z_preVo (va_recv (ci := 8) (q0 := q9) hK hP rfl hq9) hPc hKc hN hDc hO hS hAO) rfl rfl hl.1 rfl (lv_room (Nat.le_of_ble_eq_true rfl)) d_Receiver_beginPiece_216 ⟨Nat.le_of_ble_eq_true rfl, Nat.le_of_ble_eq_true rfl⟩) hS (fun q _ h => hFc q h) hFc (fun m9 t H locs ht hvm e216 hB hz1 hk1 hS => ?_)
                  obtain ⟨hP1, hK1, hD1⟩ := hB
                  rw [ht] at hP1
                  obtain ⟨hP, hD⟩ := va_joinP (wr := [(rv, .inr (4, [.ref tp, .ref ln, .ref tb, .ref ca, .ref dp])), (tp, .inr (0, [.ref a, .int (nI n)])), (a, .inl (cB, 9400, .inl f)), (la, .inr (1, [.int (nI pid), va_rf nx, .int ct, .int tw, .long ck, .int wr, .null, .ref q162])), (q162, .inr (3, [.int 1, .int (nI pid), .int (nI (rbN f n 9400 (k + 3))), .long (bpZ f n k), .int 0, .int 0, .int (bpU f n k)]))]) (rx := []) hP hD [] [0, 1, 2, 3, 4] rfl rfl (by decide) (by decide) hk1 hFc hP1 hD1
                  clear hk1 hP1 hD1 hFc hPc hDc hz1
                  have hP : va_P D classes ([(rv, .inr (4, [.ref tp, .ref ln, .ref tb, .ref ca, .ref dp])), (tp, .inr (0, [.ref a, .int (nI n)])), (a, .inl (cB, 9400, .inl f)), (la, .inr (1, [.int (nI pid), va_rf nx, .int ct, .int tw, .long ck, .int wr, .null, .ref q162])), (q162, .inr (3, [.int 1, .int (nI pid), .int (nI (rbN f n 9400 (k + 3))), .long (bpZ f n k), .int 0, .int 0, .int (bpU f n k)]))] ++ (tplr cO e0 tb lv pr P.length pmo pst m9.1 ++ (m9.2 ++ Q))) H := hP
                  have hD : va_D A ([(rv, .inr (4, [.ref tp, .ref ln, .ref tb, .ref ca, .ref dp])), (tp, .inr (0, [.ref a, .int (nI n)])), (a, .inl (cB, 9400, .inl f)), (la, .inr (1, [.int (nI pid), va_rf nx, .int ct, .int tw, .long ck, .int wr, .null, .ref q162])), (q162, .inr (3, [.int 1, .int (nI pid), .int (nI (rbN f n 9400 (k + 3))), .long (bpZ f n k), .int 0, .int 0, .int (bpU f n k)]))] ++ (tplr cO e0 tb lv pr P.length pmo pst m9.1 ++ (m9.2 ++ Q))) := hD
                  refine lv_iload hx hb d_Receiver_beginPiece_219 (lv_at hl 3 rfl) ?_
                  have hP : va_P D classes ([(rv, .inr (4, [.ref tp, .ref ln, .ref tb, .ref ca, .ref dp])), (tp, .inr (0, [.ref a, .int (nI n)])), (a, .inl (cB, 9400, .inl f))] ++ (lzc cB (la, pid, nx, ct, tw, ck, wr, none, some (q162, 1, nI pid, nI (rbN f n 9400 (k + 3)), bpZ f n k, 0, 0, bpU f n k)) ++ (tplr cO e0 tb lv pr P.length pmo pst m9.1 ++ (m9.2 ++ Q)))) H := hP
                  have hD : va_D A ([(rv, .inr (4, [.ref tp, .ref ln, .ref tb, .ref ca, .ref dp])), (tp, .inr (0, [.ref a, .int (nI n)])), (a, .inl (cB, 9400, .inl f))] ++ (lzc cB (la, pid, nx, ct, tw, ck, wr, none, some (q162, 1, nI pid, nI (rbN f n 9400 (k + 3)), bpZ f n k, 0, 0, bpU f n k)) ++ (tplr cO e0 tb lv pr P.length pmo pst m9.1 ++ (m9.2 ++ Q)))) := hD
                  have hP9 := hP.part (cx := [(rv, .inr (4, [.ref tp, .ref ln, .ref tb, .ref ca, .ref dp])), (tp, .inr (0, [.ref a, .int (nI n)])), (a, .inl (cB, 9400, .inl f))]) [0, 1, 2] rfl
                  have hD9 := hD.part (cx := [(rv, .inr (4, [.ref tp, .ref ln, .ref tb, .ref ca, .ref dp])), (tp, .inr (0, [.ref a, .int (nI n)])), (a, .inl (cB, 9400, .inl f))]) [0, 1, 2] (by decide) rfl
                  have hK9 := hK.sub (tys' := [(cB, .byte), (cO, .object "java/lang/Object")]) [0, 1] rfl
                  refine W.widen (k := 25) (n := 175) (by omega) (by omega) ?_
                  exact W.iret (v := (nI (k + 9 + bpE f n k))) hx hb hr (fun t ht hW => ⟨⟨_, (some (q162, 1, nI pid, nI (rbN f n 9400 (k + 3)), bpZ f n k, 0, 0, bpU f n k), m9.1, m9.2), rfl, ⟨Or.inr ⟨⟨h25, h43, h61, hokt⟩, rfl, (⟨q162, fun q hq => (by cases hq), rfl⟩), Or.inl ⟨hmm, by rw [← hzz]; exact e216.1⟩⟩, mn_tok htk e216.1 e216.2⟩, ⟨by rw [ht]; exact hP9, va_K.moved hW.alike hK9, hD9⟩⟩, hS.F ht⟩) hS.2.2 d_Receiver_beginPiece_221
              | some pq =>
                have hP : va_P D classes ([(rv, .inr (4, [.ref tp, .ref ln, .ref tb, .ref ca, .ref dp])), (tp, .inr (0, [.ref a, .int (nI n)])), (a, .inl (cB, 9400, .inl f)), (la, .inr (1, [.int (nI pid), va_rf nx, .int ct, .int tw, .long ck, .int wr, .null, .ref pq.1])), (pq.1, .inr (3, [.int pq.2.1, .int pq.2.2.1, .int pq.2.2.2.1, .long pq.2.2.2.2.1, .int pq.2.2.2.2.2.1, .int pq.2.2.2.2.2.2.1, .int pq.2.2.2.2.2.2.2]))] ++ (tplr cO e0 tb lv pr P.length pmo pst P ++ Q)) s.heap := hP
                have hD : va_D A ([(rv, .inr (4, [.ref tp, .ref ln, .ref tb, .ref ca, .ref dp])), (tp, .inr (0, [.ref a, .int (nI n)])), (a, .inl (cB, 9400, .inl f)), (la, .inr (1, [.int (nI pid), va_rf nx, .int ct, .int tw, .long ck, .int wr, .null, .ref pq.1])), (pq.1, .inr (3, [.int pq.2.1, .int pq.2.2.1, .int pq.2.2.2.1, .long pq.2.2.2.2.1, .int pq.2.2.2.2.2.1, .int pq.2.2.2.2.2.2.1, .int pq.2.2.2.2.2.2.2]))] ++ (tplr cO e0 tb lv pr P.length pmo pst P ++ Q)) := hD
                refine lv_aload_n hx hb d_Receiver_beginPiece_154 rfl (lv_at hl 6 rfl) ?_
                refine va_getN (D := D) (ci := 1) (v := .ref pq.1) (C := R_Lane) (T := F_Lane) (N := 8) hx hb hts i_Lane hown hK hP 3 rfl rfl 7 (by decide) (hts _ wd_258) (fun _ h9 => h9) rfl d_Receiver_beginPiece_155 ?_
                refine lv_ifnonnull (tgt := 172) hx hb d_Receiver_beginPiece_158 rfl ?_
                refine lv_aload_n hx hb d_Receiver_beginPiece_172 rfl (lv_at hl 6 rfl) ?_
                refine va_getN (D := D) (ci := 1) (v := .ref pq.1) (C := R_Lane) (T := F_Lane) (N := 8) hx hb hts i_Lane hown hK hP 3 rfl rfl 7 (by decide) (hts _ wd_258) (fun _ h9 => h9) rfl d_Receiver_beginPiece_173 ?_
                refine lv_aload_n hx hb d_Receiver_beginPiece_176 rfl (lv_at hl 6 rfl) ?_
                refine va_getN (D := D) (ci := 1) (v := .int (nI pid)) (C := R_Lane) (T := F_Lane) (N := 8) hx hb hts i_Lane hown hK hP 3 rfl rfl 0 (by decide) (hts _ wd_244) (fun _ h9 => h9) rfl d_Receiver_beginPiece_177 ?_
                refine lv_aload_n hx hb d_Receiver_beginPiece_180 rfl (lv_at hl 5 rfl) ?_
                refine va_get (D := D) (ci := 4) (v := .ref tp) (C := R_Receiver) (T := F_Receiver) (N := 5) hx hb hts i_Receiver hown hK hP 0 rfl rfl 0 (by decide) (hts _ wd_175) (fun _ h9 => h9) rfl d_Receiver_beginPiece_181 ?_
                refine lv_iload_n hx hb d_Receiver_beginPiece_184 rfl (lv_at hl 7 rfl) ?_
                refine lv_iconst (v := 3) hx hb d_Receiver_beginPiece_185 (by decide) ?_
                refine lv_iadd hx hb d_Receiver_beginPiece_186 ?_
                refine z_topi (w := nI (k + 3)) (nI_add _ 3) ?_
                have hPc := hP.sub (ws' := [(tp, .inr (0, [.ref a, .int (nI n)])), (a, .inl (cB, 9400, .inl f))]) [1, 2] rfl
                have hKc := hK.sub (tys' := [(cB, .byte)]) [0] rfl
                refine z_ci (va_runV (As := [.int (nI (k + 3))]) (rest := [.int (nI pid), .ref pq.1]) ⟨hx, hb, hml, hown, hts⟩ (c_Row_at l D cB tp a n 9400 f (nI (k + 3)) (by omega)) (z_cV hN wd_212 wd_61 wd_221 hd_Row_at rfl rfl ⟨Nat.le_of_ble_eq_true rfl, Nat.le_of_ble_eq_true rfl⟩ wd_210 wd_211) (z_preV (va_recv (ci := 0) (q0 := 1) hK hP rfl rfl) hPc hKc hN) rfl rfl hl.1 rfl (lv_room (Nat.le_of_ble_eq_true rfl)) d_Receiver_beginPiece_187 ⟨Nat.le_of_ble_eq_true rfl, Nat.le_of_ble_eq_true rfl⟩) (fun r187 e187 => ?_)
                refine z_topi (w := rw_at f n 9400 (nI (k + 3))) e187 ?_
                refine z_topi (w := nI (rbN f n 9400 (k + 3))) (rb_eq _ _ _ _) ?_
                refine lv_lload hx hb d_Receiver_beginPiece_190 (lv_at hl 0 rfl) ?_
                refine lv_iload hx hb d_Receiver_beginPiece_192 (lv_at hl 1 rfl) ?_
                have hPc := hP.sub (ws' := [(pq.1, .inr (3, [.int pq.2.1, .int pq.2.2.1, .int pq.2.2.2.1, .long pq.2.2.2.2.1, .int pq.2.2.2.2.2.1, .int pq.2.2.2.2.2.2.1, .int pq.2.2.2.2.2.2.2]))]) [4] rfl
                have hKc := hK.sub (tys' := []) [] rfl
                have hDc := hD.sub (ws' := [(pq.1, .inr (3, [.int pq.2.1, .int pq.2.2.1, .int pq.2.2.2.1, .long pq.2.2.2.2.1, .int pq.2.2.2.2.2.1, .int pq.2.2.2.2.2.2.1, .int pq.2.2.2.2.2.2.2]))]) [4] (by decide) rfl
                have hFc := va_free (wc := [(pq.1, .inr (3, [.int pq.2.1, .int pq.2.2.1, .int pq.2.2.2.1, .long pq.2.2.2.2.1, .int pq.2.2.2.2.2.1, .int pq.2.2.2.2.2.2.1, .int pq.2.2.2.2.2.2.2]))]) hD hS hA [4] rfl
                refine va_callv (va_runV (As := [.int (nI pid), .int (nI (rbN f n 9400 (k + 3))), .long (bpZ f n k), .int (bpU f n k)]) (rest := []) ⟨hx, hb, hml, hown, hts⟩ (c_Piece_begin l D s.heap.size pq.1 pq.2.1 pq.2.2.1 pq.2.2.2.1 pq.2.2.2.2.2.1 pq.2.2.2.2.2.2.1 pq.2.2.2.2.2.2.2 pq.2.2.2.2.1 (nI pid) (nI (rbN f n 9400 (k + 3))) (bpU f n k) (bpZ f n k) ) (z_cV hN wd_403 wd_77 wd_400 hd_Piece_begin rfl rfl ⟨Nat.le_of_ble_eq_true rfl, Nat.le_of_ble_eq_true rfl⟩ wd_401 wd_402) (z_preVm (va_recv (ci := 3) (q0 := 4) hK hP rfl rfl) hPc hKc hN hDc) rfl rfl hl.1 rfl (lv_room (Nat.le_of_ble_eq_true rfl)) d_Receiver_beginPiece_194 ⟨Nat.le_of_ble_eq_true rfl, Nat.le_of_ble_eq_true rfl⟩) hS (fun q _ h => hFc q h) hFc (fun u194 t H locs ht hvm e194 hB hz1 hk1 hS => ?_)
                obtain ⟨hP1, hK1, hD1⟩ := hB
                rw [ht] at hP1
                obtain ⟨hP, hD⟩ := va_joinQ (cx := [(pq.1, .inr (3, [.int pq.2.1, .int pq.2.2.1, .int pq.2.2.2.1, .long pq.2.2.2.2.1, .int pq.2.2.2.2.2.1, .int pq.2.2.2.2.2.2.1, .int pq.2.2.2.2.2.2.2]))]) (wr := [(rv, .inr (4, [.ref tp, .ref ln, .ref tb, .ref ca, .ref dp])), (tp, .inr (0, [.ref a, .int (nI n)])), (a, .inl (cB, 9400, .inl f)), (la, .inr (1, [.int (nI pid), va_rf nx, .int ct, .int tw, .long ck, .int wr, .null, .ref pq.1]))]) (w1 := [(pq.1, .inr (3, [.int 1, .int (nI pid), .int (nI (rbN f n 9400 (k + 3))), .long (bpZ f n k), .int 0, .int 0, .int (bpU f n k)]))]) hP hD [4] [0, 1, 2, 3] rfl rfl (by decide) (by decide) hk1 hFc hP1 hD1
                clear hk1 hP1 hD1 hFc hPc hDc hz1
                have hP : va_P D classes ([(rv, .inr (4, [.ref tp, .ref ln, .ref tb, .ref ca, .ref dp])), (tp, .inr (0, [.ref a, .int (nI n)])), (a, .inl (cB, 9400, .inl f)), (la, .inr (1, [.int (nI pid), va_rf nx, .int ct, .int tw, .long ck, .int wr, .null, .ref pq.1])), (pq.1, .inr (3, [.int 1, .int (nI pid), .int (nI (rbN f n 9400 (k + 3))), .long (bpZ f n k), .int 0, .int 0, .int (bpU f n k)]))] ++ (tplr cO e0 tb lv pr P.length pmo pst P ++ Q)) H := hP
                have hD : va_D A ([(rv, .inr (4, [.ref tp, .ref ln, .ref tb, .ref ca, .ref dp])), (tp, .inr (0, [.ref a, .int (nI n)])), (a, .inl (cB, 9400, .inl f)), (la, .inr (1, [.int (nI pid), va_rf nx, .int ct, .int tw, .long ck, .int wr, .null, .ref pq.1])), (pq.1, .inr (3, [.int 1, .int (nI pid), .int (nI (rbN f n 9400 (k + 3))), .long (bpZ f n k), .int 0, .int 0, .int (bpU f n k)]))] ++ (tplr cO e0 tb lv pr P.length pmo pst P ++ Q)) := hD
                refine lv_lload hx hb d_Receiver_beginPiece_197 (lv_at hl 0 rfl) ?_
                refine lv_ldc2 hx hb hown (hts _ wd_399) d_Receiver_beginPiece_199 ?_
                refine W.lcmp hx hb d_Receiver_beginPiece_202 ?_
                refine lv_if_eq (tgt := 219) hx hb d_Receiver_beginPiece_203 rfl (fun h203 => ?_) (fun h203 => ?_)
                · have h203 : bpZ f n k = -1 := (lg_cmp_eq _ _).mp h203
                  have hnm : ¬ bpM f n k := fun z9 => by unfold bpZ at h203; rw [if_pos z9] at h203; exact tm_ne _ (tmN_lt _ _ _) h203
                  refine lv_iload hx hb d_Receiver_beginPiece_219 (lv_at hl 3 rfl) ?_
                  have hP : va_P D classes ([(rv, .inr (4, [.ref tp, .ref ln, .ref tb, .ref ca, .ref dp])), (tp, .inr (0, [.ref a, .int (nI n)])), (a, .inl (cB, 9400, .inl f))] ++ (lzc cB (la, pid, nx, ct, tw, ck, wr, none, some (pq.1, 1, nI pid, nI (rbN f n 9400 (k + 3)), bpZ f n k, 0, 0, bpU f n k)) ++ (tplr cO e0 tb lv pr P.length pmo pst P ++ ([] ++ Q)))) H := hP
                  have hD : va_D A ([(rv, .inr (4, [.ref tp, .ref ln, .ref tb, .ref ca, .ref dp])), (tp, .inr (0, [.ref a, .int (nI n)])), (a, .inl (cB, 9400, .inl f))] ++ (lzc cB (la, pid, nx, ct, tw, ck, wr, none, some (pq.1, 1, nI pid, nI (rbN f n 9400 (k + 3)), bpZ f n k, 0, 0, bpU f n k)) ++ (tplr cO e0 tb lv pr P.length pmo pst P ++ ([] ++ Q)))) := hD
                  have hP9 := hP.part (cx := [(rv, .inr (4, [.ref tp, .ref ln, .ref tb, .ref ca, .ref dp])), (tp, .inr (0, [.ref a, .int (nI n)])), (a, .inl (cB, 9400, .inl f))]) [0, 1, 2] rfl
                  have hD9 := hD.part (cx := [(rv, .inr (4, [.ref tp, .ref ln, .ref tb, .ref ca, .ref dp])), (tp, .inr (0, [.ref a, .int (nI n)])), (a, .inl (cB, 9400, .inl f))]) [0, 1, 2] (by decide) rfl
                  have hK9 := hK.sub (tys' := [(cB, .byte), (cO, .object "java/lang/Object")]) [0, 1] rfl
                  refine W.widen (k := 25) (n := 175) (by omega) (by omega) ?_
                  exact W.iret (v := (nI (k + 9 + bpE f n k))) hx hb hr (fun t ht hW => ⟨⟨_, (some (pq.1, 1, nI pid, nI (rbN f n 9400 (k + 3)), bpZ f n k, 0, 0, bpU f n k), P, []), rfl, ⟨Or.inr ⟨⟨h25, h43, h61, hokt⟩, rfl, (⟨pq.1, fun q hq => (by cases hq; rfl), rfl⟩), Or.inr ⟨hnm, rfl⟩⟩, htk⟩, ⟨by rw [ht]; exact hP9, va_K.moved hW.alike hK9, hD9⟩⟩, hS.F ht⟩) hS.2.2 d_Receiver_beginPiece_221
                · have h203 : ¬ bpZ f n k = -1 := mt (lg_cmp_eq _ _).mpr h203
                  have hmm : bpM f n k := by apply Decidable.byContradiction; intro z9; exact h203 (by unfold bpZ; rw [if_neg z9])
                  have hzz : bpZ f n k = lN (tmN f n (k + 9)) := by unfold bpZ; rw [if_pos hmm]
                  refine lv_aload_n hx hb d_Receiver_beginPiece_206 rfl (lv_at hl 5 rfl) ?_
                  refine va_get (D := D) (ci := 4) (v := .ref tb) (C := R_Receiver) (T := F_Receiver) (N := 5) hx hb hts i_Receiver hown hK hP 0 rfl rfl 2 (by decide) (hts _ wd_179) (fun _ h9 => h9) rfl d_Receiver_beginPiece_207 ?_
                  refine lv_aload_n hx hb d_Receiver_beginPiece_210 rfl (lv_at hl 6 rfl) ?_
                  refine va_getN (D := D) (ci := 1) (v := .int (nI pid)) (C := R_Lane) (T := F_Lane) (N := 8) hx hb hts i_Lane hown hK hP 3 rfl rfl 0 (by decide) (hts _ wd_244) (fun _ h9 => h9) rfl d_Receiver_beginPiece_211 ?_
                  refine lv_lload hx hb d_Receiver_beginPiece_214 (lv_at hl 0 rfl) ?_
                  obtain ⟨q9, hq9⟩ : ∃ q9 : Nat, ([(rv, .inr (4, [.ref tp, .ref ln, .ref tb, .ref ca, .ref dp])), (tp, .inr (0, [.ref a, .int (nI n)])), (a, .inl (cB, 9400, .inl f)), (la, .inr (1, [.int (nI pid), va_rf nx, .int ct, .int tw, .long ck, .int wr, .null, .ref pq.1])), (pq.1, .inr (3, [.int 1, .int (nI pid), .int (nI (rbN f n 9400 (k + 3))), .long (bpZ f n k), .int 0, .int 0, .int (bpU f n k)]))] ++ (tplr cO e0 tb lv pr P.length pmo pst P ++ Q))[q9]? = some (tb, .inr (8, [.int lv, .ref pr])) := ⟨5, rfl⟩
                  have hPc := hP.part (cx := []) [] rfl
                  have hKc := hK.sub (tys' := [(cO, .object "java/lang/Object")]) [1] rfl
                  have hDc := hD.part (cx := []) [] (by decide) rfl
                  have hFc := va_freeP (cx := []) hD hS hA [] rfl
                  refine va_callv (va_runV (As := [.int (nI pid), .long (bpZ f n k)]) (rest := []) ⟨hx, hb, hml, hown, hts⟩ (c_Tables_moveNow l D B0 hG H.size cO e0 tb pr lv pmo pst P Q pid (bpZ f n k) he0 (tok_mono htk hIm) hpid) (z_cV hN wd_407 wd_63 wd_404 hd_Tables_moveNow rfl rfl ⟨Nat.le_of_ble_eq_true rfl, Nat.le_of_ble_eq_true rfl⟩ wd_405 wd_406) (z_preVo (va_recv (ci := 8) (q0 := q9) hK hP rfl hq9) hPc hKc hN hDc hO hS hAO) rfl rfl hl.1 rfl (lv_room (Nat.le_of_ble_eq_true rfl)) d_Receiver_beginPiece_216 ⟨Nat.le_of_ble_eq_true rfl, Nat.le_of_ble_eq_true rfl⟩) hS (fun q _ h => hFc q h) hFc (fun m9 t H locs ht hvm e216 hB hz1 hk1 hS => ?_)
                  obtain ⟨hP1, hK1, hD1⟩ := hB
                  rw [ht] at hP1
                  obtain ⟨hP, hD⟩ := va_joinP (wr := [(rv, .inr (4, [.ref tp, .ref ln, .ref tb, .ref ca, .ref dp])), (tp, .inr (0, [.ref a, .int (nI n)])), (a, .inl (cB, 9400, .inl f)), (la, .inr (1, [.int (nI pid), va_rf nx, .int ct, .int tw, .long ck, .int wr, .null, .ref pq.1])), (pq.1, .inr (3, [.int 1, .int (nI pid), .int (nI (rbN f n 9400 (k + 3))), .long (bpZ f n k), .int 0, .int 0, .int (bpU f n k)]))]) (rx := []) hP hD [] [0, 1, 2, 3, 4] rfl rfl (by decide) (by decide) hk1 hFc hP1 hD1
                  clear hk1 hP1 hD1 hFc hPc hDc hz1
                  have hP : va_P D classes ([(rv, .inr (4, [.ref tp, .ref ln, .ref tb, .ref ca, .ref dp])), (tp, .inr (0, [.ref a, .int (nI n)])), (a, .inl (cB, 9400, .inl f)), (la, .inr (1, [.int (nI pid), va_rf nx, .int ct, .int tw, .long ck, .int wr, .null, .ref pq.1])), (pq.1, .inr (3, [.int 1, .int (nI pid), .int (nI (rbN f n 9400 (k + 3))), .long (bpZ f n k), .int 0, .int 0, .int (bpU f n k)]))] ++ (tplr cO e0 tb lv pr P.length pmo pst m9.1 ++ (m9.2 ++ Q))) H := hP
                  have hD : va_D A ([(rv, .inr (4, [.ref tp, .ref ln, .ref tb, .ref ca, .ref dp])), (tp, .inr (0, [.ref a, .int (nI n)])), (a, .inl (cB, 9400, .inl f)), (la, .inr (1, [.int (nI pid), va_rf nx, .int ct, .int tw, .long ck, .int wr, .null, .ref pq.1])), (pq.1, .inr (3, [.int 1, .int (nI pid), .int (nI (rbN f n 9400 (k + 3))), .long (bpZ f n k), .int 0, .int 0, .int (bpU f n k)]))] ++ (tplr cO e0 tb lv pr P.length pmo pst m9.1 ++ (m9.2 ++ Q))) := hD
                  refine lv_iload hx hb d_Receiver_beginPiece_219 (lv_at hl 3 rfl) ?_
                  have hP : va_P D classes ([(rv, .inr (4, [.ref tp, .ref ln, .ref tb, .ref ca, .ref dp])), (tp, .inr (0, [.ref a, .int (nI n)])), (a, .inl (cB, 9400, .inl f))] ++ (lzc cB (la, pid, nx, ct, tw, ck, wr, none, some (pq.1, 1, nI pid, nI (rbN f n 9400 (k + 3)), bpZ f n k, 0, 0, bpU f n k)) ++ (tplr cO e0 tb lv pr P.length pmo pst m9.1 ++ (m9.2 ++ Q)))) H := hP
                  have hD : va_D A ([(rv, .inr (4, [.ref tp, .ref ln, .ref tb, .ref ca, .ref dp])), (tp, .inr (0, [.ref a, .int (nI n)])), (a, .inl (cB, 9400, .inl f))] ++ (lzc cB (la, pid, nx, ct, tw, ck, wr, none, some (pq.1, 1, nI pid, nI (rbN f n 9400 (k + 3)), bpZ f n k, 0, 0, bpU f n k)) ++ (tplr cO e0 tb lv pr P.length pmo pst m9.1 ++ (m9.2 ++ Q)))) := hD
                  have hP9 := hP.part (cx := [(rv, .inr (4, [.ref tp, .ref ln, .ref tb, .ref ca, .ref dp])), (tp, .inr (0, [.ref a, .int (nI n)])), (a, .inl (cB, 9400, .inl f))]) [0, 1, 2] rfl
                  have hD9 := hD.part (cx := [(rv, .inr (4, [.ref tp, .ref ln, .ref tb, .ref ca, .ref dp])), (tp, .inr (0, [.ref a, .int (nI n)])), (a, .inl (cB, 9400, .inl f))]) [0, 1, 2] (by decide) rfl
                  have hK9 := hK.sub (tys' := [(cB, .byte), (cO, .object "java/lang/Object")]) [0, 1] rfl
                  refine W.widen (k := 25) (n := 175) (by omega) (by omega) ?_
                  exact W.iret (v := (nI (k + 9 + bpE f n k))) hx hb hr (fun t ht hW => ⟨⟨_, (some (pq.1, 1, nI pid, nI (rbN f n 9400 (k + 3)), bpZ f n k, 0, 0, bpU f n k), m9.1, m9.2), rfl, ⟨Or.inr ⟨⟨h25, h43, h61, hokt⟩, rfl, (⟨pq.1, fun q hq => (by cases hq; rfl), rfl⟩), Or.inl ⟨hmm, by rw [← hzz]; exact e216.1⟩⟩, mn_tok htk e216.1 e216.2⟩, ⟨by rw [ht]; exact hP9, va_K.moved hW.alike hK9, hD9⟩⟩, hS.F ht⟩) hS.2.2 d_Receiver_beginPiece_221
            | some sq =>
              cases pi with
              | none =>
                have hP : va_P D classes ([(rv, .inr (4, [.ref tp, .ref ln, .ref tb, .ref ca, .ref dp])), (tp, .inr (0, [.ref a, .int (nI n)])), (a, .inl (cB, 9400, .inl f)), (la, .inr (1, [.int (nI pid), va_rf nx, .int ct, .int tw, .long ck, .int wr, .ref sq.1, .null])), (sq.1, .inr (0, [.ref sq.2.1, .int (nI sq.2.2.1)])), (sq.2.1, .inl (cB, 1024, .inl sq.2.2.2))] ++ (tplr cO e0 tb lv pr P.length pmo pst P ++ Q)) s.heap := hP
                have hD : va_D A ([(rv, .inr (4, [.ref tp, .ref ln, .ref tb, .ref ca, .ref dp])), (tp, .inr (0, [.ref a, .int (nI n)])), (a, .inl (cB, 9400, .inl f)), (la, .inr (1, [.int (nI pid), va_rf nx, .int ct, .int tw, .long ck, .int wr, .ref sq.1, .null])), (sq.1, .inr (0, [.ref sq.2.1, .int (nI sq.2.2.1)])), (sq.2.1, .inl (cB, 1024, .inl sq.2.2.2))] ++ (tplr cO e0 tb lv pr P.length pmo pst P ++ Q)) := hD
                refine lv_aload_n hx hb d_Receiver_beginPiece_154 rfl (lv_at hl 6 rfl) ?_
                refine va_getN (D := D) (ci := 1) (v := .null) (C := R_Lane) (T := F_Lane) (N := 8) hx hb hts i_Lane hown hK hP 3 rfl rfl 7 (by decide) (hts _ wd_258) (fun _ h9 => h9) rfl d_Receiver_beginPiece_155 ?_
                refine lv_ifnonnullN hx hb d_Receiver_beginPiece_158 ?_
                refine lv_aload_n hx hb d_Receiver_beginPiece_161 rfl (lv_at hl 6 rfl) ?_
                refine va_new (ci := 3) (fs := [.int 0, .int 0, .int 0, .long 0, .int 0, .int 0, .int 0]) (C := R_Piece) (T := F_Piece) (N := 7) hx hb hts i_Piece t_Piece t_Piece_ok hown (hts _ wd_173) (hts _ wd_352) (hts _ wd_77) hK hP hD hS hA rfl (fs_Piece) (by show 0 + 1 ≤ 25; omega) (by show 0 + 7 ≤ 175; omega) d_Receiver_beginPiece_162 (fun q162 H hP hD hS => ?_)
                have hP := hP.swap
                have hD := hD.swap
                have hP : va_P D classes ([(rv, .inr (4, [.ref tp, .ref ln, .ref tb, .ref ca, .ref dp])), (tp, .inr (0, [.ref a, .int (nI n)])), (a, .inl (cB, 9400, .inl f)), (la, .inr (1, [.int (nI pid), va_rf nx, .int ct, .int tw, .long ck, .int wr, .ref sq.1, .null])), (sq.1, .inr (0, [.ref sq.2.1, .int (nI sq.2.2.1)])), (sq.2.1, .inl (cB, 1024, .inl sq.2.2.2)), (q162, .inr (3, [.int 0, .int 0, .int 0, .long 0, .int 0, .int 0, .int 0]))] ++ (tplr cO e0 tb lv pr P.length pmo pst P ++ Q)) H := hP
                have hD : va_D A ([(rv, .inr (4, [.ref tp, .ref ln, .ref tb, .ref ca, .ref dp])), (tp, .inr (0, [.ref a, .int (nI n)])), (a, .inl (cB, 9400, .inl f)), (la, .inr (1, [.int (nI pid), va_rf nx, .int ct, .int tw, .long ck, .int wr, .ref sq.1, .null])), (sq.1, .inr (0, [.ref sq.2.1, .int (nI sq.2.2.1)])), (sq.2.1, .inl (cB, 1024, .inl sq.2.2.2)), (q162, .inr (3, [.int 0, .int 0, .int 0, .long 0, .int 0, .int 0, .int 0]))] ++ (tplr cO e0 tb lv pr P.length pmo pst P ++ Q)) := hD
                refine lv_dup hx hb d_Receiver_beginPiece_165 rfl ?_
                have hPc := hP.sub (ws' := [(q162, .inr (3, [.int 0, .int 0, .int 0, .long 0, .int 0, .int 0, .int 0]))]) [6] rfl
                have hKc := hK.sub (tys' := []) [] rfl
                have hDc := hD.sub (ws' := [(q162, .inr (3, [.int 0, .int 0, .int 0, .long 0, .int 0, .int 0, .int 0]))]) [6] (by decide) rfl
                have hFc := va_free (wc := [(q162, .inr (3, [.int 0, .int 0, .int 0, .long 0, .int 0, .int 0, .int 0]))]) hD hS hA [6] rfl
                refine va_callv (va_runIN (As := []) (rest := [.ref q162, .ref la]) ⟨hx, hb, hml, hown, hts⟩ (c_Piece_init l D H.size q162 0 0 0 0 0 0 0 ) (z_cIn hN wd_355 wd_77 wd_353 hd_Piece_init rfl rfl ⟨Nat.le_of_ble_eq_true rfl, Nat.le_of_ble_eq_true rfl⟩ wd_354 rfl) (z_preSm hPc hKc hN hDc) rfl rfl hl.1 rfl (lv_room (Nat.le_of_ble_eq_true rfl)) d_Receiver_beginPiece_166 ⟨Nat.le_of_ble_eq_true rfl, Nat.le_of_ble_eq_true rfl⟩) hS (fun q _ h => hFc q h) hFc (fun u166 t H locs ht hvm e166 hB hz1 hk1 hS => ?_)
                obtain ⟨hP1, hK1, hD1⟩ := hB
                rw [ht] at hP1
                obtain ⟨hP, hD⟩ := va_joinQ (cx := [(q162, .inr (3, [.int 0, .int 0, .int 0, .long 0, .int 0, .int 0, .int 0]))]) (wr := [(rv, .inr (4, [.ref tp, .ref ln, .ref tb, .ref ca, .ref dp])), (tp, .inr (0, [.ref a, .int (nI n)])), (a, .inl (cB, 9400, .inl f)), (la, .inr (1, [.int (nI pid), va_rf nx, .int ct, .int tw, .long ck, .int wr, .ref sq.1, .null])), (sq.1, .inr (0, [.ref sq.2.1, .int (nI sq.2.2.1)])), (sq.2.1, .inl (cB, 1024, .inl sq.2.2.2))]) (w1 := [(q162, .inr (3, [.int 0, .int 0, .int 0, .long 0, .int 0, .int 0, .int 0]))]) hP hD [6] [0, 1, 2, 3, 4, 5] rfl rfl (by decide) (by decide) hk1 hFc hP1 hD1
                clear hk1 hP1 hD1 hFc hPc hDc hz1
                have hP : va_P D classes ([(rv, .inr (4, [.ref tp, .ref ln, .ref tb, .ref ca, .ref dp])), (tp, .inr (0, [.ref a, .int (nI n)])), (a, .inl (cB, 9400, .inl f)), (la, .inr (1, [.int (nI pid), va_rf nx, .int ct, .int tw, .long ck, .int wr, .ref sq.1, .null])), (sq.1, .inr (0, [.ref sq.2.1, .int (nI sq.2.2.1)])), (sq.2.1, .inl (cB, 1024, .inl sq.2.2.2)), (q162, .inr (3, [.int 0, .int 0, .int 0, .long 0, .int 0, .int 0, .int 0]))] ++ (tplr cO e0 tb lv pr P.length pmo pst P ++ Q)) H := hP
                have hD : va_D A ([(rv, .inr (4, [.ref tp, .ref ln, .ref tb, .ref ca, .ref dp])), (tp, .inr (0, [.ref a, .int (nI n)])), (a, .inl (cB, 9400, .inl f)), (la, .inr (1, [.int (nI pid), va_rf nx, .int ct, .int tw, .long ck, .int wr, .ref sq.1, .null])), (sq.1, .inr (0, [.ref sq.2.1, .int (nI sq.2.2.1)])), (sq.2.1, .inl (cB, 1024, .inl sq.2.2.2)), (q162, .inr (3, [.int 0, .int 0, .int 0, .long 0, .int 0, .int 0, .int 0]))] ++ (tplr cO e0 tb lv pr P.length pmo pst P ++ Q)) := hD
                refine va_putN (D := D) (ci := 1) (v := .ref q162) (ty := (.object "StreamSplitter$Piece")) (C := R_Lane) (T := F_Lane) (N := 8) hx hb hts i_Lane t_Lane t_Lane_ok n_Lane hown hK hP hD hS 3 rfl rfl 7 (by decide) (hts _ wd_258) (fun _ h9 => h9) rfl (by decide +kernel) rfl rfl (Nat.le_of_ble_eq_true rfl) d_Receiver_beginPiece_169 (fun H locs hP hD hS => ?_)
                have hP : va_P D classes ([(rv, .inr (4, [.ref tp, .ref ln, .ref tb, .ref ca, .ref dp])), (tp, .inr (0, [.ref a, .int (nI n)])), (a, .inl (cB, 9400, .inl f)), (la, .inr (1, [.int (nI pid), va_rf nx, .int ct, .int tw, .long ck, .int wr, .ref sq.1, .ref q162])), (sq.1, .inr (0, [.ref sq.2.1, .int (nI sq.2.2.1)])), (sq.2.1, .inl (cB, 1024, .inl sq.2.2.2)), (q162, .inr (3, [.int 0, .int 0, .int 0, .long 0, .int 0, .int 0, .int 0]))] ++ (tplr cO e0 tb lv pr P.length pmo pst P ++ Q)) H := hP
                have hD : va_D A ([(rv, .inr (4, [.ref tp, .ref ln, .ref tb, .ref ca, .ref dp])), (tp, .inr (0, [.ref a, .int (nI n)])), (a, .inl (cB, 9400, .inl f)), (la, .inr (1, [.int (nI pid), va_rf nx, .int ct, .int tw, .long ck, .int wr, .ref sq.1, .ref q162])), (sq.1, .inr (0, [.ref sq.2.1, .int (nI sq.2.2.1)])), (sq.2.1, .inl (cB, 1024, .inl sq.2.2.2)), (q162, .inr (3, [.int 0, .int 0, .int 0, .long 0, .int 0, .int 0, .int 0]))] ++ (tplr cO e0 tb lv pr P.length pmo pst P ++ Q)) := hD
                refine lv_aload_n hx hb d_Receiver_beginPiece_172 rfl (lv_at hl 6 rfl) ?_
                refine va_getN (D := D) (ci := 1) (v := .ref q162) (C := R_Lane) (T := F_Lane) (N := 8) hx hb hts i_Lane hown hK hP 3 rfl rfl 7 (by decide) (hts _ wd_258) (fun _ h9 => h9) rfl d_Receiver_beginPiece_173 ?_
                refine lv_aload_n hx hb d_Receiver_beginPiece_176 rfl (lv_at hl 6 rfl) ?_
                refine va_getN (D := D) (ci := 1) (v := .int (nI pid)) (C := R_Lane) (T := F_Lane) (N := 8) hx hb hts i_Lane hown hK hP 3 rfl rfl 0 (by decide) (hts _ wd_244) (fun _ h9 => h9) rfl d_Receiver_beginPiece_177 ?_
                refine lv_aload_n hx hb d_Receiver_beginPiece_180 rfl (lv_at hl 5 rfl) ?_
                refine va_get (D := D) (ci := 4) (v := .ref tp) (C := R_Receiver) (T := F_Receiver) (N := 5) hx hb hts i_Receiver hown hK hP 0 rfl rfl 0 (by decide) (hts _ wd_175) (fun _ h9 => h9) rfl d_Receiver_beginPiece_181 ?_
                refine lv_iload_n hx hb d_Receiver_beginPiece_184 rfl (lv_at hl 7 rfl) ?_
                refine lv_iconst (v := 3) hx hb d_Receiver_beginPiece_185 (by decide) ?_
                refine lv_iadd hx hb d_Receiver_beginPiece_186 ?_
                refine z_topi (w := nI (k + 3)) (nI_add _ 3) ?_
                have hPc := hP.sub (ws' := [(tp, .inr (0, [.ref a, .int (nI n)])), (a, .inl (cB, 9400, .inl f))]) [1, 2] rfl
                have hKc := hK.sub (tys' := [(cB, .byte)]) [0] rfl
                refine z_ci (va_runV (As := [.int (nI (k + 3))]) (rest := [.int (nI pid), .ref q162]) ⟨hx, hb, hml, hown, hts⟩ (c_Row_at l D cB tp a n 9400 f (nI (k + 3)) (by omega)) (z_cV hN wd_212 wd_61 wd_221 hd_Row_at rfl rfl ⟨Nat.le_of_ble_eq_true rfl, Nat.le_of_ble_eq_true rfl⟩ wd_210 wd_211) (z_preV (va_recv (ci := 0) (q0 := 1) hK hP rfl rfl) hPc hKc hN) rfl rfl hl.1 rfl (lv_room (Nat.le_of_ble_eq_true rfl)) d_Receiver_beginPiece_187 ⟨Nat.le_of_ble_eq_true rfl, Nat.le_of_ble_eq_true rfl⟩) (fun r187 e187 => ?_)
                refine z_topi (w := rw_at f n 9400 (nI (k + 3))) e187 ?_
                refine z_topi (w := nI (rbN f n 9400 (k + 3))) (rb_eq _ _ _ _) ?_
                refine lv_lload hx hb d_Receiver_beginPiece_190 (lv_at hl 0 rfl) ?_
                refine lv_iload hx hb d_Receiver_beginPiece_192 (lv_at hl 1 rfl) ?_
                have hPc := hP.sub (ws' := [(q162, .inr (3, [.int 0, .int 0, .int 0, .long 0, .int 0, .int 0, .int 0]))]) [6] rfl
                have hKc := hK.sub (tys' := []) [] rfl
                have hDc := hD.sub (ws' := [(q162, .inr (3, [.int 0, .int 0, .int 0, .long 0, .int 0, .int 0, .int 0]))]) [6] (by decide) rfl
                have hFc := va_free (wc := [(q162, .inr (3, [.int 0, .int 0, .int 0, .long 0, .int 0, .int 0, .int 0]))]) hD hS hA [6] rfl
                refine va_callv (va_runV (As := [.int (nI pid), .int (nI (rbN f n 9400 (k + 3))), .long (bpZ f n k), .int (bpU f n k)]) (rest := []) ⟨hx, hb, hml, hown, hts⟩ (c_Piece_begin l D H.size q162 0 0 0 0 0 0 0 (nI pid) (nI (rbN f n 9400 (k + 3))) (bpU f n k) (bpZ f n k) ) (z_cV hN wd_403 wd_77 wd_400 hd_Piece_begin rfl rfl ⟨Nat.le_of_ble_eq_true rfl, Nat.le_of_ble_eq_true rfl⟩ wd_401 wd_402) (z_preVm (va_recv (ci := 3) (q0 := 6) hK hP rfl rfl) hPc hKc hN hDc) rfl rfl hl.1 rfl (lv_room (Nat.le_of_ble_eq_true rfl)) d_Receiver_beginPiece_194 ⟨Nat.le_of_ble_eq_true rfl, Nat.le_of_ble_eq_true rfl⟩) hS (fun q _ h => hFc q h) hFc (fun u194 t H locs ht hvm e194 hB hz1 hk1 hS => ?_)
                obtain ⟨hP1, hK1, hD1⟩ := hB
                rw [ht] at hP1
                obtain ⟨hP, hD⟩ := va_joinQ (cx := [(q162, .inr (3, [.int 0, .int 0, .int 0, .long 0, .int 0, .int 0, .int 0]))]) (wr := [(rv, .inr (4, [.ref tp, .ref ln, .ref tb, .ref ca, .ref dp])), (tp, .inr (0, [.ref a, .int (nI n)])), (a, .inl (cB, 9400, .inl f)), (la, .inr (1, [.int (nI pid), va_rf nx, .int ct, .int tw, .long ck, .int wr, .ref sq.1, .ref q162])), (sq.1, .inr (0, [.ref sq.2.1, .int (nI sq.2.2.1)])), (sq.2.1, .inl (cB, 1024, .inl sq.2.2.2))]) (w1 := [(q162, .inr (3, [.int 1, .int (nI pid), .int (nI (rbN f n 9400 (k + 3))), .long (bpZ f n k), .int 0, .int 0, .int (bpU f n k)]))]) hP hD [6] [0, 1, 2, 3, 4, 5] rfl rfl (by decide) (by decide) hk1 hFc hP1 hD1
                clear hk1 hP1 hD1 hFc hPc hDc hz1
                have hP : va_P D classes ([(rv, .inr (4, [.ref tp, .ref ln, .ref tb, .ref ca, .ref dp])), (tp, .inr (0, [.ref a, .int (nI n)])), (a, .inl (cB, 9400, .inl f)), (la, .inr (1, [.int (nI pid), va_rf nx, .int ct, .int tw, .long ck, .int wr, .ref sq.1, .ref q162])), (sq.1, .inr (0, [.ref sq.2.1, .int (nI sq.2.2.1)])), (sq.2.1, .inl (cB, 1024, .inl sq.2.2.2)), (q162, .inr (3, [.int 1, .int (nI pid), .int (nI (rbN f n 9400 (k + 3))), .long (bpZ f n k), .int 0, .int 0, .int (bpU f n k)]))] ++ (tplr cO e0 tb lv pr P.length pmo pst P ++ Q)) H := hP
                have hD : va_D A ([(rv, .inr (4, [.ref tp, .ref ln, .ref tb, .ref ca, .ref dp])), (tp, .inr (0, [.ref a, .int (nI n)])), (a, .inl (cB, 9400, .inl f)), (la, .inr (1, [.int (nI pid), va_rf nx, .int ct, .int tw, .long ck, .int wr, .ref sq.1, .ref q162])), (sq.1, .inr (0, [.ref sq.2.1, .int (nI sq.2.2.1)])), (sq.2.1, .inl (cB, 1024, .inl sq.2.2.2)), (q162, .inr (3, [.int 1, .int (nI pid), .int (nI (rbN f n 9400 (k + 3))), .long (bpZ f n k), .int 0, .int 0, .int (bpU f n k)]))] ++ (tplr cO e0 tb lv pr P.length pmo pst P ++ Q)) := hD
                refine lv_lload hx hb d_Receiver_beginPiece_197 (lv_at hl 0 rfl) ?_
                refine lv_ldc2 hx hb hown (hts _ wd_399) d_Receiver_beginPiece_199 ?_
                refine W.lcmp hx hb d_Receiver_beginPiece_202 ?_
                refine lv_if_eq (tgt := 219) hx hb d_Receiver_beginPiece_203 rfl (fun h203 => ?_) (fun h203 => ?_)
                · have h203 : bpZ f n k = -1 := (lg_cmp_eq _ _).mp h203
                  have hnm : ¬ bpM f n k := fun z9 => by unfold bpZ at h203; rw [if_pos z9] at h203; exact tm_ne _ (tmN_lt _ _ _) h203
                  refine lv_iload hx hb d_Receiver_beginPiece_219 (lv_at hl 3 rfl) ?_
                  have hP : va_P D classes ([(rv, .inr (4, [.ref tp, .ref ln, .ref tb, .ref ca, .ref dp])), (tp, .inr (0, [.ref a, .int (nI n)])), (a, .inl (cB, 9400, .inl f))] ++ (lzc cB (la, pid, nx, ct, tw, ck, wr, (some sq), some (q162, 1, nI pid, nI (rbN f n 9400 (k + 3)), bpZ f n k, 0, 0, bpU f n k)) ++ (tplr cO e0 tb lv pr P.length pmo pst P ++ ([] ++ Q)))) H := hP
                  have hD : va_D A ([(rv, .inr (4, [.ref tp, .ref ln, .ref tb, .ref ca, .ref dp])), (tp, .inr (0, [.ref a, .int (nI n)])), (a, .inl (cB, 9400, .inl f))] ++ (lzc cB (la, pid, nx, ct, tw, ck, wr, (some sq), some (q162, 1, nI pid, nI (rbN f n 9400 (k + 3)), bpZ f n k, 0, 0, bpU f n k)) ++ (tplr cO e0 tb lv pr P.length pmo pst P ++ ([] ++ Q)))) := hD
                  have hP9 := hP.part (cx := [(rv, .inr (4, [.ref tp, .ref ln, .ref tb, .ref ca, .ref dp])), (tp, .inr (0, [.ref a, .int (nI n)])), (a, .inl (cB, 9400, .inl f))]) [0, 1, 2] rfl
                  have hD9 := hD.part (cx := [(rv, .inr (4, [.ref tp, .ref ln, .ref tb, .ref ca, .ref dp])), (tp, .inr (0, [.ref a, .int (nI n)])), (a, .inl (cB, 9400, .inl f))]) [0, 1, 2] (by decide) rfl
                  have hK9 := hK.sub (tys' := [(cB, .byte), (cO, .object "java/lang/Object")]) [0, 1] rfl
                  refine W.widen (k := 25) (n := 175) (by omega) (by omega) ?_
                  exact W.iret (v := (nI (k + 9 + bpE f n k))) hx hb hr (fun t ht hW => ⟨⟨_, (some (q162, 1, nI pid, nI (rbN f n 9400 (k + 3)), bpZ f n k, 0, 0, bpU f n k), P, []), rfl, ⟨Or.inr ⟨⟨h25, h43, h61, hokt⟩, rfl, (⟨q162, fun q hq => (by cases hq), rfl⟩), Or.inr ⟨hnm, rfl⟩⟩, htk⟩, ⟨by rw [ht]; exact hP9, va_K.moved hW.alike hK9, hD9⟩⟩, hS.F ht⟩) hS.2.2 d_Receiver_beginPiece_221
                · have h203 : ¬ bpZ f n k = -1 := mt (lg_cmp_eq _ _).mpr h203
                  have hmm : bpM f n k := by apply Decidable.byContradiction; intro z9; exact h203 (by unfold bpZ; rw [if_neg z9])
                  have hzz : bpZ f n k = lN (tmN f n (k + 9)) := by unfold bpZ; rw [if_pos hmm]
                  refine lv_aload_n hx hb d_Receiver_beginPiece_206 rfl (lv_at hl 5 rfl) ?_
                  refine va_get (D := D) (ci := 4) (v := .ref tb) (C := R_Receiver) (T := F_Receiver) (N := 5) hx hb hts i_Receiver hown hK hP 0 rfl rfl 2 (by decide) (hts _ wd_179) (fun _ h9 => h9) rfl d_Receiver_beginPiece_207 ?_
                  refine lv_aload_n hx hb d_Receiver_beginPiece_210 rfl (lv_at hl 6 rfl) ?_
                  refine va_getN (D := D) (ci := 1) (v := .int (nI pid)) (C := R_Lane) (T := F_Lane) (N := 8) hx hb hts i_Lane hown hK hP 3 rfl rfl 0 (by decide) (hts _ wd_244) (fun _ h9 => h9) rfl d_Receiver_beginPiece_211 ?_
                  refine lv_lload hx hb d_Receiver_beginPiece_214 (lv_at hl 0 rfl) ?_
                  obtain ⟨q9, hq9⟩ : ∃ q9 : Nat, ([(rv, .inr (4, [.ref tp, .ref ln, .ref tb, .ref ca, .ref dp])), (tp, .inr (0, [.ref a, .int (nI n)])), (a, .inl (cB, 9400, .inl f)), (la, .inr (1, [.int (nI pid), va_rf nx, .int ct, .int tw, .long ck, .int wr, .ref sq.1, .ref q162])), (sq.1, .inr (0, [.ref sq.2.1, .int (nI sq.2.2.1)])), (sq.2.1, .inl (cB, 1024, .inl sq.2.2.2)), (q162, .inr (3, [.int 1, .int (nI pid), .int (nI (rbN f n 9400 (k + 3))), .long (bpZ f n k), .int 0, .int 0, .int (bpU f n k)]))] ++ (tplr cO e0 tb lv pr P.length pmo pst P ++ Q))[q9]? = some (tb, .inr (8, [.int lv, .ref pr])) := ⟨7, rfl⟩
                  have hPc := hP.part (cx := []) [] rfl
                  have hKc := hK.sub (tys' := [(cO, .object "java/lang/Object")]) [1] rfl
                  have hDc := hD.part (cx := []) [] (by decide) rfl
                  have hFc := va_freeP (cx := []) hD hS hA [] rfl
                  refine va_callv (va_runV (As := [.int (nI pid), .long (bpZ f n k)]) (rest := []) ⟨hx, hb, hml, hown, hts⟩ (c_Tables_moveNow l D B0 hG H.size cO e0 tb pr lv pmo pst P Q pid (bpZ f n k) he0 (tok_mono htk hIm) hpid) (z_cV hN wd_407 wd_63 wd_404 hd_Tables_moveNow rfl rfl ⟨Nat.le_of_ble_eq_true rfl, Nat.le_of_ble_eq_true rfl⟩ wd_405 wd_406) (z_preVo (va_recv (ci := 8) (q0 := q9) hK hP rfl hq9) hPc hKc hN hDc hO hS hAO) rfl rfl hl.1 rfl (lv_room (Nat.le_of_ble_eq_true rfl)) d_Receiver_beginPiece_216 ⟨Nat.le_of_ble_eq_true rfl, Nat.le_of_ble_eq_true rfl⟩) hS (fun q _ h => hFc q h) hFc (fun m9 t H locs ht hvm e216 hB hz1 hk1 hS => ?_)
                  obtain ⟨hP1, hK1, hD1⟩ := hB
                  rw [ht] at hP1
                  obtain ⟨hP, hD⟩ := va_joinP (wr := [(rv, .inr (4, [.ref tp, .ref ln, .ref tb, .ref ca, .ref dp])), (tp, .inr (0, [.ref a, .int (nI n)])), (a, .inl (cB, 9400, .inl f)), (la, .inr (1, [.int (nI pid), va_rf nx, .int ct, .int tw, .long ck, .int wr, .ref sq.1, .ref q162])), (sq.1, .inr (0, [.ref sq.2.1, .int (nI sq.2.2.1)])), (sq.2.1, .inl (cB, 1024, .inl sq.2.2.2)), (q162, .inr (3, [.int 1, .int (nI pid), .int (nI (rbN f n 9400 (k + 3))), .long (bpZ f n k), .int 0, .int 0, .int (bpU f n k)]))]) (rx := []) hP hD [] [0, 1, 2, 3, 4, 5, 6] rfl rfl (by decide) (by decide) hk1 hFc hP1 hD1
                  clear hk1 hP1 hD1 hFc hPc hDc hz1
                  have hP : va_P D classes ([(rv, .inr (4, [.ref tp, .ref ln, .ref tb, .ref ca, .ref dp])), (tp, .inr (0, [.ref a, .int (nI n)])), (a, .inl (cB, 9400, .inl f)), (la, .inr (1, [.int (nI pid), va_rf nx, .int ct, .int tw, .long ck, .int wr, .ref sq.1, .ref q162])), (sq.1, .inr (0, [.ref sq.2.1, .int (nI sq.2.2.1)])), (sq.2.1, .inl (cB, 1024, .inl sq.2.2.2)), (q162, .inr (3, [.int 1, .int (nI pid), .int (nI (rbN f n 9400 (k + 3))), .long (bpZ f n k), .int 0, .int 0, .int (bpU f n k)]))] ++ (tplr cO e0 tb lv pr P.length pmo pst m9.1 ++ (m9.2 ++ Q))) H := hP
                  have hD : va_D A ([(rv, .inr (4, [.ref tp, .ref ln, .ref tb, .ref ca, .ref dp])), (tp, .inr (0, [.ref a, .int (nI n)])), (a, .inl (cB, 9400, .inl f)), (la, .inr (1, [.int (nI pid), va_rf nx, .int ct, .int tw, .long ck, .int wr, .ref sq.1, .ref q162])), (sq.1, .inr (0, [.ref sq.2.1, .int (nI sq.2.2.1)])), (sq.2.1, .inl (cB, 1024, .inl sq.2.2.2)), (q162, .inr (3, [.int 1, .int (nI pid), .int (nI (rbN f n 9400 (k + 3))), .long (bpZ f n k), .int 0, .int 0, .int (bpU f n k)]))] ++ (tplr cO e0 tb lv pr P.length pmo pst m9.1 ++ (m9.2 ++ Q))) := hD
                  refine lv_iload hx hb d_Receiver_beginPiece_219 (lv_at hl 3 rfl) ?_
                  have hP : va_P D classes ([(rv, .inr (4, [.ref tp, .ref ln, .ref tb, .ref ca, .ref dp])), (tp, .inr (0, [.ref a, .int (nI n)])), (a, .inl (cB, 9400, .inl f))] ++ (lzc cB (la, pid, nx, ct, tw, ck, wr, (some sq), some (q162, 1, nI pid, nI (rbN f n 9400 (k + 3)), bpZ f n k, 0, 0, bpU f n k)) ++ (tplr cO e0 tb lv pr P.length pmo pst m9.1 ++ (m9.2 ++ Q)))) H := hP
                  have hD : va_D A ([(rv, .inr (4, [.ref tp, .ref ln, .ref tb, .ref ca, .ref dp])), (tp, .inr (0, [.ref a, .int (nI n)])), (a, .inl (cB, 9400, .inl f))] ++ (lzc cB (la, pid, nx, ct, tw, ck, wr, (some sq), some (q162, 1, nI pid, nI (rbN f n 9400 (k + 3)), bpZ f n k, 0, 0, bpU f n k)) ++ (tplr cO e0 tb lv pr P.length pmo pst m9.1 ++ (m9.2 ++ Q)))) := hD
                  have hP9 := hP.part (cx := [(rv, .inr (4, [.ref tp, .ref ln, .ref tb, .ref ca, .ref dp])), (tp, .inr (0, [.ref a, .int (nI n)])), (a, .inl (cB, 9400, .inl f))]) [0, 1, 2] rfl
                  have hD9 := hD.part (cx := [(rv, .inr (4, [.ref tp, .ref ln, .ref tb, .ref ca, .ref dp])), (tp, .inr (0, [.ref a, .int (nI n)])), (a, .inl (cB, 9400, .inl f))]) [0, 1, 2] (by decide) rfl
                  have hK9 := hK.sub (tys' := [(cB, .byte), (cO, .object "java/lang/Object")]) [0, 1] rfl
                  refine W.widen (k := 25) (n := 175) (by omega) (by omega) ?_
                  exact W.iret (v := (nI (k + 9 + bpE f n k))) hx hb hr (fun t ht hW => ⟨⟨_, (some (q162, 1, nI pid, nI (rbN f n 9400 (k + 3)), bpZ f n k, 0, 0, bpU f n k), m9.1, m9.2), rfl, ⟨Or.inr ⟨⟨h25, h43, h61, hokt⟩, rfl, (⟨q162, fun q hq => (by cases hq), rfl⟩), Or.inl ⟨hmm, by rw [← hzz]; exact e216.1⟩⟩, mn_tok htk e216.1 e216.2⟩, ⟨by rw [ht]; exact hP9, va_K.moved hW.alike hK9, hD9⟩⟩, hS.F ht⟩) hS.2.2 d_Receiver_beginPiece_221
              | some pq =>
                have hP : va_P D classes ([(rv, .inr (4, [.ref tp, .ref ln, .ref tb, .ref ca, .ref dp])), (tp, .inr (0, [.ref a, .int (nI n)])), (a, .inl (cB, 9400, .inl f)), (la, .inr (1, [.int (nI pid), va_rf nx, .int ct, .int tw, .long ck, .int wr, .ref sq.1, .ref pq.1])), (sq.1, .inr (0, [.ref sq.2.1, .int (nI sq.2.2.1)])), (sq.2.1, .inl (cB, 1024, .inl sq.2.2.2)), (pq.1, .inr (3, [.int pq.2.1, .int pq.2.2.1, .int pq.2.2.2.1, .long pq.2.2.2.2.1, .int pq.2.2.2.2.2.1, .int pq.2.2.2.2.2.2.1, .int pq.2.2.2.2.2.2.2]))] ++ (tplr cO e0 tb lv pr P.length pmo pst P ++ Q)) s.heap := hP
                have hD : va_D A ([(rv, .inr (4, [.ref tp, .ref ln, .ref tb, .ref ca, .ref dp])), (tp, .inr (0, [.ref a, .int (nI n)])), (a, .inl (cB, 9400, .inl f)), (la, .inr (1, [.int (nI pid), va_rf nx, .int ct, .int tw, .long ck, .int wr, .ref sq.1, .ref pq.1])), (sq.1, .inr (0, [.ref sq.2.1, .int (nI sq.2.2.1)])), (sq.2.1, .inl (cB, 1024, .inl sq.2.2.2)), (pq.1, .inr (3, [.int pq.2.1, .int pq.2.2.1, .int pq.2.2.2.1, .long pq.2.2.2.2.1, .int pq.2.2.2.2.2.1, .int pq.2.2.2.2.2.2.1, .int pq.2.2.2.2.2.2.2]))] ++ (tplr cO e0 tb lv pr P.length pmo pst P ++ Q)) := hD
                refine lv_aload_n hx hb d_Receiver_beginPiece_154 rfl (lv_at hl 6 rfl) ?_
                refine va_getN (D := D) (ci := 1) (v := .ref pq.1) (C := R_Lane) (T := F_Lane) (N := 8) hx hb hts i_Lane hown hK hP 3 rfl rfl 7 (by decide) (hts _ wd_258) (fun _ h9 => h9) rfl d_Receiver_beginPiece_155 ?_
                refine lv_ifnonnull (tgt := 172) hx hb d_Receiver_beginPiece_158 rfl ?_
                refine lv_aload_n hx hb d_Receiver_beginPiece_172 rfl (lv_at hl 6 rfl) ?_
                refine va_getN (D := D) (ci := 1) (v := .ref pq.1) (C := R_Lane) (T := F_Lane) (N := 8) hx hb hts i_Lane hown hK hP 3 rfl rfl 7 (by decide) (hts _ wd_258) (fun _ h9 => h9) rfl d_Receiver_beginPiece_173 ?_
                refine lv_aload_n hx hb d_Receiver_beginPiece_176 rfl (lv_at hl 6 rfl) ?_
                refine va_getN (D := D) (ci := 1) (v := .int (nI pid)) (C := R_Lane) (T := F_Lane) (N := 8) hx hb hts i_Lane hown hK hP 3 rfl rfl 0 (by decide) (hts _ wd_244) (fun _ h9 => h9) rfl d_Receiver_beginPiece_177 ?_
                refine lv_aload_n hx hb d_Receiver_beginPiece_180 rfl (lv_at hl 5 rfl) ?_
                refine va_get (D := D) (ci := 4) (v := .ref tp) (C := R_Receiver) (T := F_Receiver) (N := 5) hx hb hts i_Receiver hown hK hP 0 rfl rfl 0 (by decide) (hts _ wd_175) (fun _ h9 => h9) rfl d_Receiver_beginPiece_181 ?_
                refine lv_iload_n hx hb d_Receiver_beginPiece_184 rfl (lv_at hl 7 rfl) ?_
                refine lv_iconst (v := 3) hx hb d_Receiver_beginPiece_185 (by decide) ?_
                refine lv_iadd hx hb d_Receiver_beginPiece_186 ?_
                refine z_topi (w := nI (k + 3)) (nI_add _ 3) ?_
                have hPc := hP.sub (ws' := [(tp, .inr (0, [.ref a, .int (nI n)])), (a, .inl (cB, 9400, .inl f))]) [1, 2] rfl
                have hKc := hK.sub (tys' := [(cB, .byte)]) [0] rfl
                refine z_ci (va_runV (As := [.int (nI (k + 3))]) (rest := [.int (nI pid), .ref pq.1]) ⟨hx, hb, hml, hown, hts⟩ (c_Row_at l D cB tp a n 9400 f (nI (k + 3)) (by omega)) (z_cV hN wd_212 wd_61 wd_221 hd_Row_at rfl rfl ⟨Nat.le_of_ble_eq_true rfl, Nat.le_of_ble_eq_true rfl⟩ wd_210 wd_211) (z_preV (va_recv (ci := 0) (q0 := 1) hK hP rfl rfl) hPc hKc hN) rfl rfl hl.1 rfl (lv_room (Nat.le_of_ble_eq_true rfl)) d_Receiver_beginPiece_187 ⟨Nat.le_of_ble_eq_true rfl, Nat.le_of_ble_eq_true rfl⟩) (fun r187 e187 => ?_)
                refine z_topi (w := rw_at f n 9400 (nI (k + 3))) e187 ?_
                refine z_topi (w := nI (rbN f n 9400 (k + 3))) (rb_eq _ _ _ _) ?_
                refine lv_lload hx hb d_Receiver_beginPiece_190 (lv_at hl 0 rfl) ?_
                refine lv_iload hx hb d_Receiver_beginPiece_192 (lv_at hl 1 rfl) ?_
                have hPc := hP.sub (ws' := [(pq.1, .inr (3, [.int pq.2.1, .int pq.2.2.1, .int pq.2.2.2.1, .long pq.2.2.2.2.1, .int pq.2.2.2.2.2.1, .int pq.2.2.2.2.2.2.1, .int pq.2.2.2.2.2.2.2]))]) [6] rfl
                have hKc := hK.sub (tys' := []) [] rfl
                have hDc := hD.sub (ws' := [(pq.1, .inr (3, [.int pq.2.1, .int pq.2.2.1, .int pq.2.2.2.1, .long pq.2.2.2.2.1, .int pq.2.2.2.2.2.1, .int pq.2.2.2.2.2.2.1, .int pq.2.2.2.2.2.2.2]))]) [6] (by decide) rfl
                have hFc := va_free (wc := [(pq.1, .inr (3, [.int pq.2.1, .int pq.2.2.1, .int pq.2.2.2.1, .long pq.2.2.2.2.1, .int pq.2.2.2.2.2.1, .int pq.2.2.2.2.2.2.1, .int pq.2.2.2.2.2.2.2]))]) hD hS hA [6] rfl
                refine va_callv (va_runV (As := [.int (nI pid), .int (nI (rbN f n 9400 (k + 3))), .long (bpZ f n k), .int (bpU f n k)]) (rest := []) ⟨hx, hb, hml, hown, hts⟩ (c_Piece_begin l D s.heap.size pq.1 pq.2.1 pq.2.2.1 pq.2.2.2.1 pq.2.2.2.2.2.1 pq.2.2.2.2.2.2.1 pq.2.2.2.2.2.2.2 pq.2.2.2.2.1 (nI pid) (nI (rbN f n 9400 (k + 3))) (bpU f n k) (bpZ f n k) ) (z_cV hN wd_403 wd_77 wd_400 hd_Piece_begin rfl rfl ⟨Nat.le_of_ble_eq_true rfl, Nat.le_of_ble_eq_true rfl⟩ wd_401 wd_402) (z_preVm (va_recv (ci := 3) (q0 := 6) hK hP rfl rfl) hPc hKc hN hDc) rfl rfl hl.1 rfl (lv_room (Nat.le_of_ble_eq_true rfl)) d_Receiver_beginPiece_194 ⟨Nat.le_of_ble_eq_true rfl, Nat.le_of_ble_eq_true rfl⟩) hS (fun q _ h => hFc q h) hFc (fun u194 t H locs ht hvm e194 hB hz1 hk1 hS => ?_)
                obtain ⟨hP1, hK1, hD1⟩ := hB
                rw [ht] at hP1
                obtain ⟨hP, hD⟩ := va_joinQ (cx := [(pq.1, .inr (3, [.int pq.2.1, .int pq.2.2.1, .int pq.2.2.2.1, .long pq.2.2.2.2.1, .int pq.2.2.2.2.2.1, .int pq.2.2.2.2.2.2.1, .int pq.2.2.2.2.2.2.2]))]) (wr := [(rv, .inr (4, [.ref tp, .ref ln, .ref tb, .ref ca, .ref dp])), (tp, .inr (0, [.ref a, .int (nI n)])), (a, .inl (cB, 9400, .inl f)), (la, .inr (1, [.int (nI pid), va_rf nx, .int ct, .int tw, .long ck, .int wr, .ref sq.1, .ref pq.1])), (sq.1, .inr (0, [.ref sq.2.1, .int (nI sq.2.2.1)])), (sq.2.1, .inl (cB, 1024, .inl sq.2.2.2))]) (w1 := [(pq.1, .inr (3, [.int 1, .int (nI pid), .int (nI (rbN f n 9400 (k + 3))), .long (bpZ f n k), .int 0, .int 0, .int (bpU f n k)]))]) hP hD [6] [0, 1, 2, 3, 4, 5] rfl rfl (by decide) (by decide) hk1 hFc hP1 hD1
                clear hk1 hP1 hD1 hFc hPc hDc hz1
                have hP : va_P D classes ([(rv, .inr (4, [.ref tp, .ref ln, .ref tb, .ref ca, .ref dp])), (tp, .inr (0, [.ref a, .int (nI n)])), (a, .inl (cB, 9400, .inl f)), (la, .inr (1, [.int (nI pid), va_rf nx, .int ct, .int tw, .long ck, .int wr, .ref sq.1, .ref pq.1])), (sq.1, .inr (0, [.ref sq.2.1, .int (nI sq.2.2.1)])), (sq.2.1, .inl (cB, 1024, .inl sq.2.2.2)), (pq.1, .inr (3, [.int 1, .int (nI pid), .int (nI (rbN f n 9400 (k + 3))), .long (bpZ f n k), .int 0, .int 0, .int (bpU f n k)]))] ++ (tplr cO e0 tb lv pr P.length pmo pst P ++ Q)) H := hP
                have hD : va_D A ([(rv, .inr (4, [.ref tp, .ref ln, .ref tb, .ref ca, .ref dp])), (tp, .inr (0, [.ref a, .int (nI n)])), (a, .inl (cB, 9400, .inl f)), (la, .inr (1, [.int (nI pid), va_rf nx, .int ct, .int tw, .long ck, .int wr, .ref sq.1, .ref pq.1])), (sq.1, .inr (0, [.ref sq.2.1, .int (nI sq.2.2.1)])), (sq.2.1, .inl (cB, 1024, .inl sq.2.2.2)), (pq.1, .inr (3, [.int 1, .int (nI pid), .int (nI (rbN f n 9400 (k + 3))), .long (bpZ f n k), .int 0, .int 0, .int (bpU f n k)]))] ++ (tplr cO e0 tb lv pr P.length pmo pst P ++ Q)) := hD
                refine lv_lload hx hb d_Receiver_beginPiece_197 (lv_at hl 0 rfl) ?_
                refine lv_ldc2 hx hb hown (hts _ wd_399) d_Receiver_beginPiece_199 ?_
                refine W.lcmp hx hb d_Receiver_beginPiece_202 ?_
                refine lv_if_eq (tgt := 219) hx hb d_Receiver_beginPiece_203 rfl (fun h203 => ?_) (fun h203 => ?_)
                · have h203 : bpZ f n k = -1 := (lg_cmp_eq _ _).mp h203
                  have hnm : ¬ bpM f n k := fun z9 => by unfold bpZ at h203; rw [if_pos z9] at h203; exact tm_ne _ (tmN_lt _ _ _) h203
                  refine lv_iload hx hb d_Receiver_beginPiece_219 (lv_at hl 3 rfl) ?_
                  have hP : va_P D classes ([(rv, .inr (4, [.ref tp, .ref ln, .ref tb, .ref ca, .ref dp])), (tp, .inr (0, [.ref a, .int (nI n)])), (a, .inl (cB, 9400, .inl f))] ++ (lzc cB (la, pid, nx, ct, tw, ck, wr, (some sq), some (pq.1, 1, nI pid, nI (rbN f n 9400 (k + 3)), bpZ f n k, 0, 0, bpU f n k)) ++ (tplr cO e0 tb lv pr P.length pmo pst P ++ ([] ++ Q)))) H := hP
                  have hD : va_D A ([(rv, .inr (4, [.ref tp, .ref ln, .ref tb, .ref ca, .ref dp])), (tp, .inr (0, [.ref a, .int (nI n)])), (a, .inl (cB, 9400, .inl f))] ++ (lzc cB (la, pid, nx, ct, tw, ck, wr, (some sq), some (pq.1, 1, nI pid, nI (rbN f n 9400 (k + 3)), bpZ f n k, 0, 0, bpU f n k)) ++ (tplr cO e0 tb lv pr P.length pmo pst P ++ ([] ++ Q)))) := hD
                  have hP9 := hP.part (cx := [(rv, .inr (4, [.ref tp, .ref ln, .ref tb, .ref ca, .ref dp])), (tp, .inr (0, [.ref a, .int (nI n)])), (a, .inl (cB, 9400, .inl f))]) [0, 1, 2] rfl
                  have hD9 := hD.part (cx := [(rv, .inr (4, [.ref tp, .ref ln, .ref tb, .ref ca, .ref dp])), (tp, .inr (0, [.ref a, .int (nI n)])), (a, .inl (cB, 9400, .inl f))]) [0, 1, 2] (by decide) rfl
                  have hK9 := hK.sub (tys' := [(cB, .byte), (cO, .object "java/lang/Object")]) [0, 1] rfl
                  refine W.widen (k := 25) (n := 175) (by omega) (by omega) ?_
                  exact W.iret (v := (nI (k + 9 + bpE f n k))) hx hb hr (fun t ht hW => ⟨⟨_, (some (pq.1, 1, nI pid, nI (rbN f n 9400 (k + 3)), bpZ f n k, 0, 0, bpU f n k), P, []), rfl, ⟨Or.inr ⟨⟨h25, h43, h61, hokt⟩, rfl, (⟨pq.1, fun q hq => (by cases hq; rfl), rfl⟩), Or.inr ⟨hnm, rfl⟩⟩, htk⟩, ⟨by rw [ht]; exact hP9, va_K.moved hW.alike hK9, hD9⟩⟩, hS.F ht⟩) hS.2.2 d_Receiver_beginPiece_221
                · have h203 : ¬ bpZ f n k = -1 := mt (lg_cmp_eq _ _).mpr h203
                  have hmm : bpM f n k := by apply Decidable.byContradiction; intro z9; exact h203 (by unfold bpZ; rw [if_neg z9])
                  have hzz : bpZ f n k = lN (tmN f n (k + 9)) := by unfold bpZ; rw [if_pos hmm]
                  refine lv_aload_n hx hb d_Receiver_beginPiece_206 rfl (lv_at hl 5 rfl) ?_
                  refine va_get (D := D) (ci := 4) (v := .ref tb) (C := R_Receiver) (T := F_Receiver) (N := 5) hx hb hts i_Receiver hown hK hP 0 rfl rfl 2 (by decide) (hts _ wd_179) (fun _ h9 => h9) rfl d_Receiver_beginPiece_207 ?_
                  refine lv_aload_n hx hb d_Receiver_beginPiece_210 rfl (lv_at hl 6 rfl) ?_
                  refine va_getN (D := D) (ci := 1) (v := .int (nI pid)) (C := R_Lane) (T := F_Lane) (N := 8) hx hb hts i_Lane hown hK hP 3 rfl rfl 0 (by decide) (hts _ wd_244) (fun _ h9 => h9) rfl d_Receiver_beginPiece_211 ?_
                  refine lv_lload hx hb d_Receiver_beginPiece_214 (lv_at hl 0 rfl) ?_
                  obtain ⟨q9, hq9⟩ : ∃ q9 : Nat, ([(rv, .inr (4, [.ref tp, .ref ln, .ref tb, .ref ca, .ref dp])), (tp, .inr (0, [.ref a, .int (nI n)])), (a, .inl (cB, 9400, .inl f)), (la, .inr (1, [.int (nI pid), va_rf nx, .int ct, .int tw, .long ck, .int wr, .ref sq.1, .ref pq.1])), (sq.1, .inr (0, [.ref sq.2.1, .int (nI sq.2.2.1)])), (sq.2.1, .inl (cB, 1024, .inl sq.2.2.2)), (pq.1, .inr (3, [.int 1, .int (nI pid), .int (nI (rbN f n 9400 (k + 3))), .long (bpZ f n k), .int 0, .int 0, .int (bpU f n k)]))] ++ (tplr cO e0 tb lv pr P.length pmo pst P ++ Q))[q9]? = some (tb, .inr (8, [.int lv, .ref pr])) := ⟨7, rfl⟩
                  have hPc := hP.part (cx := []) [] rfl
                  have hKc := hK.sub (tys' := [(cO, .object "java/lang/Object")]) [1] rfl
                  have hDc := hD.part (cx := []) [] (by decide) rfl
                  have hFc := va_freeP (cx := []) hD hS hA [] rfl
                  refine va_callv (va_runV (As := [.int (nI pid), .long (bpZ f n k)]) (rest := []) ⟨hx, hb, hml, hown, hts⟩ (c_Tables_moveNow l D B0 hG H.size cO e0 tb pr lv pmo pst P Q pid (bpZ f n k) he0 (tok_mono htk hIm) hpid) (z_cV hN wd_407 wd_63 wd_404 hd_Tables_moveNow rfl rfl ⟨Nat.le_of_ble_eq_true rfl, Nat.le_of_ble_eq_true rfl⟩ wd_405 wd_406) (z_preVo (va_recv (ci := 8) (q0 := q9) hK hP rfl hq9) hPc hKc hN hDc hO hS hAO) rfl rfl hl.1 rfl (lv_room (Nat.le_of_ble_eq_true rfl)) d_Receiver_beginPiece_216 ⟨Nat.le_of_ble_eq_true rfl, Nat.le_of_ble_eq_true rfl⟩) hS (fun q _ h => hFc q h) hFc (fun m9 t H locs ht hvm e216 hB hz1 hk1 hS => ?_)
                  obtain ⟨hP1, hK1, hD1⟩ := hB
                  rw [ht] at hP1
                  obtain ⟨hP, hD⟩ := va_joinP (wr := [(rv, .inr (4, [.ref tp, .ref ln, .ref tb, .ref ca, .ref dp])), (tp, .inr (0, [.ref a, .int (nI n)])), (a, .inl (cB, 9400, .inl f)), (la, .inr (1, [.int (nI pid), va_rf nx, .int ct, .int tw, .long ck, .int wr, .ref sq.1, .ref pq.1])), (sq.1, .inr (0, [.ref sq.2.1, .int (nI sq.2.2.1)])), (sq.2.1, .inl (cB, 1024, .inl sq.2.2.2)), (pq.1, .inr (3, [.int 1, .int (nI pid), .int (nI (rbN f n 9400 (k + 3))), .long (bpZ f n k), .int 0, .int 0, .int (bpU f n k)]))]) (rx := []) hP hD [] [0, 1, 2, 3, 4, 5, 6] rfl rfl (by decide) (by decide) hk1 hFc hP1 hD1
                  clear hk1 hP1 hD1 hFc hPc hDc hz1
                  have hP : va_P D classes ([(rv, .inr (4, [.ref tp, .ref ln, .ref tb, .ref ca, .ref dp])), (tp, .inr (0, [.ref a, .int (nI n)])), (a, .inl (cB, 9400, .inl f)), (la, .inr (1, [.int (nI pid), va_rf nx, .int ct, .int tw, .long ck, .int wr, .ref sq.1, .ref pq.1])), (sq.1, .inr (0, [.ref sq.2.1, .int (nI sq.2.2.1)])), (sq.2.1, .inl (cB, 1024, .inl sq.2.2.2)), (pq.1, .inr (3, [.int 1, .int (nI pid), .int (nI (rbN f n 9400 (k + 3))), .long (bpZ f n k), .int 0, .int 0, .int (bpU f n k)]))] ++ (tplr cO e0 tb lv pr P.length pmo pst m9.1 ++ (m9.2 ++ Q))) H := hP
                  have hD : va_D A ([(rv, .inr (4, [.ref tp, .ref ln, .ref tb, .ref ca, .ref dp])), (tp, .inr (0, [.ref a, .int (nI n)])), (a, .inl (cB, 9400, .inl f)), (la, .inr (1, [.int (nI pid), va_rf nx, .int ct, .int tw, .long ck, .int wr, .ref sq.1, .ref pq.1])), (sq.1, .inr (0, [.ref sq.2.1, .int (nI sq.2.2.1)])), (sq.2.1, .inl (cB, 1024, .inl sq.2.2.2)), (pq.1, .inr (3, [.int 1, .int (nI pid), .int (nI (rbN f n 9400 (k + 3))), .long (bpZ f n k), .int 0, .int 0, .int (bpU f n k)]))] ++ (tplr cO e0 tb lv pr P.length pmo pst m9.1 ++ (m9.2 ++ Q))) := hD
                  refine lv_iload hx hb d_Receiver_beginPiece_219 (lv_at hl 3 rfl) ?_
                  have hP : va_P D classes ([(rv, .inr (4, [.ref tp, .ref ln, .ref tb, .ref ca, .ref dp])), (tp, .inr (0, [.ref a, .int (nI n)])), (a, .inl (cB, 9400, .inl f))] ++ (lzc cB (la, pid, nx, ct, tw, ck, wr, (some sq), some (pq.1, 1, nI pid, nI (rbN f n 9400 (k + 3)), bpZ f n k, 0, 0, bpU f n k)) ++ (tplr cO e0 tb lv pr P.length pmo pst m9.1 ++ (m9.2 ++ Q)))) H := hP
                  have hD : va_D A ([(rv, .inr (4, [.ref tp, .ref ln, .ref tb, .ref ca, .ref dp])), (tp, .inr (0, [.ref a, .int (nI n)])), (a, .inl (cB, 9400, .inl f))] ++ (lzc cB (la, pid, nx, ct, tw, ck, wr, (some sq), some (pq.1, 1, nI pid, nI (rbN f n 9400 (k + 3)), bpZ f n k, 0, 0, bpU f n k)) ++ (tplr cO e0 tb lv pr P.length pmo pst m9.1 ++ (m9.2 ++ Q)))) := hD
                  have hP9 := hP.part (cx := [(rv, .inr (4, [.ref tp, .ref ln, .ref tb, .ref ca, .ref dp])), (tp, .inr (0, [.ref a, .int (nI n)])), (a, .inl (cB, 9400, .inl f))]) [0, 1, 2] rfl
                  have hD9 := hD.part (cx := [(rv, .inr (4, [.ref tp, .ref ln, .ref tb, .ref ca, .ref dp])), (tp, .inr (0, [.ref a, .int (nI n)])), (a, .inl (cB, 9400, .inl f))]) [0, 1, 2] (by decide) rfl
                  have hK9 := hK.sub (tys' := [(cB, .byte), (cO, .object "java/lang/Object")]) [0, 1] rfl
                  refine W.widen (k := 25) (n := 175) (by omega) (by omega) ?_
                  exact W.iret (v := (nI (k + 9 + bpE f n k))) hx hb hr (fun t ht hW => ⟨⟨_, (some (pq.1, 1, nI pid, nI (rbN f n 9400 (k + 3)), bpZ f n k, 0, 0, bpU f n k), m9.1, m9.2), rfl, ⟨Or.inr ⟨⟨h25, h43, h61, hokt⟩, rfl, (⟨pq.1, fun q hq => (by cases hq; rfl), rfl⟩), Or.inl ⟨hmm, by rw [← hzz]; exact e216.1⟩⟩, mn_tok htk e216.1 e216.2⟩, ⟨by rw [ht]; exact hP9, va_K.moved hW.alike hK9, hD9⟩⟩, hS.F ht⟩) hS.2.2 d_Receiver_beginPiece_221
          · have h109 : bpU f n k < 0 := Int32.not_le.mp h109
            refine lv_iload_n hx hb d_Receiver_beginPiece_112 rfl (lv_at hl 7 rfl) ?_
            have hP9 := hP.part (cx := [(rv, .inr (4, [.ref tp, .ref ln, .ref tb, .ref ca, .ref dp])), (tp, .inr (0, [.ref a, .int (nI n)])), (a, .inl (cB, 9400, .inl f))]) [0, 1, 2] rfl
            have hD9 := hD.part (cx := [(rv, .inr (4, [.ref tp, .ref ln, .ref tb, .ref ca, .ref dp])), (tp, .inr (0, [.ref a, .int (nI n)])), (a, .inl (cB, 9400, .inl f))]) [0, 1, 2] (by decide) rfl
            have hK9 := hK.sub (tys' := [(cB, .byte), (cO, .object "java/lang/Object")]) [0, 1] rfl
            refine W.widen (k := 25) (n := 175) (by omega) (by omega) ?_
            exact W.iret (v := (nI te)) hx hb hr (fun t ht hW => ⟨⟨_, (pi, P, []), rfl, ⟨Or.inl ⟨fun z9 => z9.2.2.2.elim h104 (fun q => q h109), rfl, rfl⟩, htk⟩, ⟨by rw [ht]; exact hP9, va_K.moved hW.alike hK9, hD9⟩⟩, hS.F ht⟩) hS.2.2 d_Receiver_beginPiece_113
      · have h61 : ¬ rbN f n 9400 (k + 6) / 64 = 2 := mt (nI_eq (b := 2) (by have := rb_lt f n 9400 (k + 6); omega) (by omega)).mpr h61
        refine lv_iload_n hx hb d_Receiver_beginPiece_64 rfl (lv_at hl 5 rfl) ?_
        have hP9 := hP.part (cx := [(rv, .inr (4, [.ref tp, .ref ln, .ref tb, .ref ca, .ref dp])), (tp, .inr (0, [.ref a, .int (nI n)])), (a, .inl (cB, 9400, .inl f))]) [0, 1, 2] rfl
        have hD9 := hD.part (cx := [(rv, .inr (4, [.ref tp, .ref ln, .ref tb, .ref ca, .ref dp])), (tp, .inr (0, [.ref a, .int (nI n)])), (a, .inl (cB, 9400, .inl f))]) [0, 1, 2] (by decide) rfl
        have hK9 := hK.sub (tys' := [(cB, .byte), (cO, .object "java/lang/Object")]) [0, 1] rfl
        refine W.widen (k := 25) (n := 175) (by omega) (by omega) ?_
        exact W.iret (v := (nI te)) hx hb hr (fun t ht hW => ⟨⟨_, (pi, P, []), rfl, ⟨Or.inl ⟨fun z9 => by first | exact h25 z9.1 | exact h43 z9.2.1 | exact h61 z9.2.2.1, rfl, rfl⟩, htk⟩, ⟨by rw [ht]; exact hP9, va_K.moved hW.alike hK9, hD9⟩⟩, hS.F ht⟩) hS.2.2 d_Receiver_beginPiece_65
