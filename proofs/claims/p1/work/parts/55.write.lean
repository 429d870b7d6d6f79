theorem wd_20 : (Jvm.Cond.selects "StreamSplitter" ({ cls := "StreamSplitter", name := "hasNoRoom", desc := "(I)Z" } : Jvm.MethodName) ({ cls := "StreamSplitter", name := "hasNoRoom", desc := "(I)Z" } : Jvm.MethodName)) ∈ lw_ok := List.mem_filter.mpr ⟨List.mem_of_getElem? (i := 20) (by decide +kernel), rfl⟩
theorem wd_21 : (Jvm.Cond.selects "StreamSplitter" ({ cls := "StreamSplitter", name := "writerTo", desc := "(II)LStreamSplitter$Writer;" } : Jvm.MethodName) ({ cls := "StreamSplitter", name := "writerTo", desc := "(II)LStreamSplitter$Writer;" } : Jvm.MethodName)) ∈ lw_ok := List.mem_filter.mpr ⟨List.mem_of_getElem? (i := 21) (by decide +kernel), rfl⟩
theorem wd_937 : (Jvm.Cond.methodLink "StreamSplitter" (229 : Nat) ({ cls := "StreamSplitter", name := "hasNoRoom", desc := "(I)Z" } : Jvm.MethodName)) ∈ lw_ok := List.mem_filter.mpr ⟨List.mem_of_getElem? (i := 937) (by decide +kernel), rfl⟩
theorem wd_939 : (Jvm.Cond.instanceMethod ({ cls := "StreamSplitter", name := "hasNoRoom", desc := "(I)Z" } : Jvm.MethodName)) ∈ lw_ok := List.mem_filter.mpr ⟨List.mem_of_getElem? (i := 939) (by decide +kernel), rfl⟩
set_option maxRecDepth 100000 in
theorem wd_940 : (Jvm.Cond.code ({ cls := "StreamSplitter", name := "hasNoRoom", desc := "(I)Z" } : Jvm.MethodName) prog_1_method_22_code (2 : Nat) (Option.some Jvm.ClassFile.FieldType.boolean)) ∈ lw_ok := List.mem_filter.mpr ⟨List.mem_of_getElem? (i := 940) (by rfl), rfl⟩
theorem wd_941 : (Jvm.Cond.methodLink "StreamSplitter" (232 : Nat) ({ cls := "StreamSplitter", name := "writerTo", desc := "(II)LStreamSplitter$Writer;" } : Jvm.MethodName)) ∈ lw_ok := List.mem_filter.mpr ⟨List.mem_of_getElem? (i := 941) (by decide +kernel), rfl⟩
theorem wd_943 : (Jvm.Cond.instanceMethod ({ cls := "StreamSplitter", name := "writerTo", desc := "(II)LStreamSplitter$Writer;" } : Jvm.MethodName)) ∈ lw_ok := List.mem_filter.mpr ⟨List.mem_of_getElem? (i := 943) (by decide +kernel), rfl⟩
set_option maxRecDepth 100000 in
theorem wd_944 : (Jvm.Cond.code ({ cls := "StreamSplitter", name := "writerTo", desc := "(II)LStreamSplitter$Writer;" } : Jvm.MethodName) prog_1_method_23_code (3 : Nat) (Option.some (Jvm.ClassFile.FieldType.object "StreamSplitter$Writer"))) ∈ lw_ok := List.mem_filter.mpr ⟨List.mem_of_getElem? (i := 944) (by rfl), rfl⟩
theorem wd_1004 : (Jvm.Cond.instanceMethod ({ cls := "StreamSplitter$Writer", name := "endSection", desc := "()V" } : Jvm.MethodName)) ∈ lw_ok := List.mem_filter.mpr ⟨List.mem_of_getElem? (i := 1004) (by decide +kernel), rfl⟩
theorem wd_1005 : (Jvm.Cond.selects "StreamSplitter$Writer" ({ cls := "StreamSplitter$Writer", name := "endSection", desc := "()V" } : Jvm.MethodName) ({ cls := "StreamSplitter$Writer", name := "endSection", desc := "()V" } : Jvm.MethodName)) ∈ lw_ok := List.mem_filter.mpr ⟨List.mem_of_getElem? (i := 1005) (by decide +kernel), rfl⟩
set_option maxRecDepth 100000 in
theorem wd_1006 : (Jvm.Cond.code ({ cls := "StreamSplitter$Writer", name := "endSection", desc := "()V" } : Jvm.MethodName) prog_12_method_5_code (2 : Nat) (Option.none : Option Jvm.ClassFile.FieldType)) ∈ lw_ok := List.mem_filter.mpr ⟨List.mem_of_getElem? (i := 1006) (by rfl), rfl⟩
theorem wd_1040 : (Jvm.Cond.methodLink "StreamSplitter" (252 : Nat) ({ cls := "StreamSplitter$Writer", name := "putPieceHead", desc := "(IJI)V" } : Jvm.MethodName)) ∈ lw_ok := List.mem_filter.mpr ⟨List.mem_of_getElem? (i := 1040) (by decide +kernel), rfl⟩
theorem wd_1041 : (Jvm.Cond.instanceMethod ({ cls := "StreamSplitter$Writer", name := "putPieceHead", desc := "(IJI)V" } : Jvm.MethodName)) ∈ lw_ok := List.mem_filter.mpr ⟨List.mem_of_getElem? (i := 1041) (by decide +kernel), rfl⟩
theorem wd_1042 : (Jvm.Cond.selects "StreamSplitter$Writer" ({ cls := "StreamSplitter$Writer", name := "putPieceHead", desc := "(IJI)V" } : Jvm.MethodName) ({ cls := "StreamSplitter$Writer", name := "putPieceHead", desc := "(IJI)V" } : Jvm.MethodName)) ∈ lw_ok := List.mem_filter.mpr ⟨List.mem_of_getElem? (i := 1042) (by decide +kernel), rfl⟩
set_option maxRecDepth 100000 in
theorem wd_1043 : (Jvm.Cond.code ({ cls := "StreamSplitter$Writer", name := "putPieceHead", desc := "(IJI)V" } : Jvm.MethodName) prog_12_method_11_code (5 : Nat) (Option.none : Option Jvm.ClassFile.FieldType)) ∈ lw_ok := List.mem_filter.mpr ⟨List.mem_of_getElem? (i := 1043) (by rfl), rfl⟩
theorem wd_1048 : (Jvm.Cond.methodLink "StreamSplitter" (256 : Nat) ({ cls := "StreamSplitter$Writer", name := "putData", desc := "(II)V" } : Jvm.MethodName)) ∈ lw_ok := List.mem_filter.mpr ⟨List.mem_of_getElem? (i := 1048) (by decide +kernel), rfl⟩
theorem wd_1049 : (Jvm.Cond.instanceMethod ({ cls := "StreamSplitter$Writer", name := "putData", desc := "(II)V" } : Jvm.MethodName)) ∈ lw_ok := List.mem_filter.mpr ⟨List.mem_of_getElem? (i := 1049) (by decide +kernel), rfl⟩
theorem wd_1050 : (Jvm.Cond.selects "StreamSplitter$Writer" ({ cls := "StreamSplitter$Writer", name := "putData", desc := "(II)V" } : Jvm.MethodName) ({ cls := "StreamSplitter$Writer", name := "putData", desc := "(II)V" } : Jvm.MethodName)) ∈ lw_ok := List.mem_filter.mpr ⟨List.mem_of_getElem? (i := 1050) (by decide +kernel), rfl⟩
set_option maxRecDepth 100000 in
theorem wd_1051 : (Jvm.Cond.code ({ cls := "StreamSplitter$Writer", name := "putData", desc := "(II)V" } : Jvm.MethodName) prog_12_method_12_code (5 : Nat) (Option.none : Option Jvm.ClassFile.FieldType)) ∈ lw_ok := List.mem_filter.mpr ⟨List.mem_of_getElem? (i := 1051) (by rfl), rfl⟩
theorem wd_1061 : (Jvm.Cond.methodLink "StreamSplitter" (261 : Nat) ({ cls := "StreamSplitter$Writer", name := "beginSection", desc := "(II)V" } : Jvm.MethodName)) ∈ lw_ok := List.mem_filter.mpr ⟨List.mem_of_getElem? (i := 1061) (by decide +kernel), rfl⟩
theorem wd_1062 : (Jvm.Cond.methodLink "StreamSplitter" (264 : Nat) ({ cls := "StreamSplitter$Writer", name := "putOrderHead", desc := "(IJ)V" } : Jvm.MethodName)) ∈ lw_ok := List.mem_filter.mpr ⟨List.mem_of_getElem? (i := 1062) (by decide +kernel), rfl⟩
theorem wd_1063 : (Jvm.Cond.instanceMethod ({ cls := "StreamSplitter$Writer", name := "putOrderHead", desc := "(IJ)V" } : Jvm.MethodName)) ∈ lw_ok := List.mem_filter.mpr ⟨List.mem_of_getElem? (i := 1063) (by decide +kernel), rfl⟩
theorem wd_1064 : (Jvm.Cond.selects "StreamSplitter$Writer" ({ cls := "StreamSplitter$Writer", name := "putOrderHead", desc := "(IJ)V" } : Jvm.MethodName) ({ cls := "StreamSplitter$Writer", name := "putOrderHead", desc := "(IJ)V" } : Jvm.MethodName)) ∈ lw_ok := List.mem_filter.mpr ⟨List.mem_of_getElem? (i := 1064) (by decide +kernel), rfl⟩
set_option maxRecDepth 100000 in
theorem wd_1065 : (Jvm.Cond.code ({ cls := "StreamSplitter$Writer", name := "putOrderHead", desc := "(IJ)V" } : Jvm.MethodName) prog_12_method_13_code (4 : Nat) (Option.none : Option Jvm.ClassFile.FieldType)) ∈ lw_ok := List.mem_filter.mpr ⟨List.mem_of_getElem? (i := 1065) (by rfl), rfl⟩
theorem wd_1074 : (Jvm.Cond.constantLong "StreamSplitter" (268 : Nat) (8589934591 : Int64)) ∈ lw_ok := List.mem_filter.mpr ⟨List.mem_of_getElem? (i := 1074) (by decide +kernel), rfl⟩
theorem wd_1075 : (Jvm.Cond.methodLink "StreamSplitter" (270 : Nat) ({ cls := "StreamSplitter$Writer", name := "putOrderBody", desc := "(IJJ)V" } : Jvm.MethodName)) ∈ lw_ok := List.mem_filter.mpr ⟨List.mem_of_getElem? (i := 1075) (by decide +kernel), rfl⟩
theorem wd_1076 : (Jvm.Cond.instanceMethod ({ cls := "StreamSplitter$Writer", name := "putOrderBody", desc := "(IJJ)V" } : Jvm.MethodName)) ∈ lw_ok := List.mem_filter.mpr ⟨List.mem_of_getElem? (i := 1076) (by decide +kernel), rfl⟩
theorem wd_1077 : (Jvm.Cond.selects "StreamSplitter$Writer" ({ cls := "StreamSplitter$Writer", name := "putOrderBody", desc := "(IJJ)V" } : Jvm.MethodName) ({ cls := "StreamSplitter$Writer", name := "putOrderBody", desc := "(IJJ)V" } : Jvm.MethodName)) ∈ lw_ok := List.mem_filter.mpr ⟨List.mem_of_getElem? (i := 1077) (by decide +kernel), rfl⟩
set_option maxRecDepth 100000 in
theorem wd_1078 : (Jvm.Cond.code ({ cls := "StreamSplitter$Writer", name := "putOrderBody", desc := "(IJJ)V" } : Jvm.MethodName) prog_12_method_14_code (8 : Nat) (Option.none : Option Jvm.ClassFile.FieldType)) ∈ lw_ok := List.mem_filter.mpr ⟨List.mem_of_getElem? (i := 1078) (by rfl), rfl⟩
theorem wd_1080 : (Jvm.Cond.methodLink "StreamSplitter" (274 : Nat) ({ cls := "StreamSplitter$Writer", name := "endSection", desc := "()V" } : Jvm.MethodName)) ∈ lw_ok := List.mem_filter.mpr ⟨List.mem_of_getElem? (i := 1080) (by decide +kernel), rfl⟩
theorem hd_SS_hasNoRoom : y_SS_hasNoRoom.cls ≠ "java/lang/invoke/MethodHandle" ∧ y_SS_hasNoRoom.cls ≠ "java/lang/invoke/VarHandle" ∧ (parseMethodDescriptor y_SS_hasNoRoom.desc).map (fun d => d.parameters.length) = some 1 := by decide +kernel
theorem hd_SS_writerTo : y_SS_writerTo.cls ≠ "java/lang/invoke/MethodHandle" ∧ y_SS_writerTo.cls ≠ "java/lang/invoke/VarHandle" ∧ (parseMethodDescriptor y_SS_writerTo.desc).map (fun d => d.parameters.length) = some 2 := by decide +kernel
theorem hd_Writer_endSection : y_Writer_endSection.cls ≠ "java/lang/invoke/MethodHandle" ∧ y_Writer_endSection.cls ≠ "java/lang/invoke/VarHandle" ∧ (parseMethodDescriptor y_Writer_endSection.desc).map (fun d => d.parameters.length) = some 0 := by decide +kernel
theorem hd_Writer_putData : y_Writer_putData.cls ≠ "java/lang/invoke/MethodHandle" ∧ y_Writer_putData.cls ≠ "java/lang/invoke/VarHandle" ∧ (parseMethodDescriptor y_Writer_putData.desc).map (fun d => d.parameters.length) = some 2 := by decide +kernel
theorem hd_Writer_putOrderBody : y_Writer_putOrderBody.cls ≠ "java/lang/invoke/MethodHandle" ∧ y_Writer_putOrderBody.cls ≠ "java/lang/invoke/VarHandle" ∧ (parseMethodDescriptor y_Writer_putOrderBody.desc).map (fun d => d.parameters.length) = some 3 := by decide +kernel
theorem hd_Writer_putOrderHead : y_Writer_putOrderHead.cls ≠ "java/lang/invoke/MethodHandle" ∧ y_Writer_putOrderHead.cls ≠ "java/lang/invoke/VarHandle" ∧ (parseMethodDescriptor y_Writer_putOrderHead.desc).map (fun d => d.parameters.length) = some 2 := by decide +kernel
theorem hd_Writer_putPieceHead : y_Writer_putPieceHead.cls ≠ "java/lang/invoke/MethodHandle" ∧ y_Writer_putPieceHead.cls ≠ "java/lang/invoke/VarHandle" ∧ (parseMethodDescriptor y_Writer_putPieceHead.desc).map (fun d => d.parameters.length) = some 3 := by decide +kernel
theorem d_SS_writeOrder_51 : decode b_SS_writeOrder 51 = .ok (.aload_n 0, 1) := by decide +kernel
theorem d_SS_writeOrder_52 : decode b_SS_writeOrder 52 = .ok (.iconst 1, 1) := by decide +kernel
theorem d_SS_writeOrder_53 : decode b_SS_writeOrder 53 = .ok (.invokevirtual 229, 3) := by decide +kernel
theorem d_SS_writeOrder_56 : decode b_SS_writeOrder 56 = .ok (.ifCond .eq 5, 3) := by decide +kernel
theorem d_SS_writeOrder_61 : decode b_SS_writeOrder 61 = .ok (.aload_n 0, 1) := by decide +kernel
theorem d_SS_writeOrder_62 : decode b_SS_writeOrder 62 = .ok (.iload_n 1, 1) := by decide +kernel
theorem d_SS_writeOrder_63 : decode b_SS_writeOrder 63 = .ok (.sipush 184, 3) := by decide +kernel
theorem d_SS_writeOrder_66 : decode b_SS_writeOrder 66 = .ok (.invokevirtual 232, 3) := by decide +kernel
theorem d_SS_writeOrder_69 : decode b_SS_writeOrder 69 = .ok (.astore 8, 2) := by decide +kernel
theorem d_SS_writeOrder_71 : decode b_SS_writeOrder 71 = .ok (.aload 8, 2) := by decide +kernel
theorem d_SS_writeOrder_73 : decode b_SS_writeOrder 73 = .ok (.sipush 252, 3) := by decide +kernel
theorem d_SS_writeOrder_76 : decode b_SS_writeOrder 76 = .ok (.sipush 12288, 3) := by decide +kernel
theorem d_SS_writeOrder_79 : decode b_SS_writeOrder 79 = .ok (.invokevirtual 261, 3) := by decide +kernel
theorem d_SS_writeOrder_82 : decode b_SS_writeOrder 82 = .ok (.aload 8, 2) := by decide +kernel
theorem d_SS_writeOrder_84 : decode b_SS_writeOrder 84 = .ok (.iload_n 2, 1) := by decide +kernel
theorem d_SS_writeOrder_85 : decode b_SS_writeOrder 85 = .ok (.lload 6, 2) := by decide +kernel
theorem d_SS_writeOrder_87 : decode b_SS_writeOrder 87 = .ok (.bipush 33, 2) := by decide +kernel
theorem d_SS_writeOrder_89 : decode b_SS_writeOrder 89 = .ok (.lushr, 1) := by decide +kernel
theorem d_SS_writeOrder_90 : decode b_SS_writeOrder 90 = .ok (.invokevirtual 264, 3) := by decide +kernel
theorem d_SS_writeOrder_93 : decode b_SS_writeOrder 93 = .ok (.aload 8, 2) := by decide +kernel
theorem d_SS_writeOrder_95 : decode b_SS_writeOrder 95 = .ok (.iload_n 3, 1) := by decide +kernel
theorem d_SS_writeOrder_96 : decode b_SS_writeOrder 96 = .ok (.lload 4, 2) := by decide +kernel
theorem d_SS_writeOrder_98 : decode b_SS_writeOrder 98 = .ok (.lload 6, 2) := by decide +kernel
theorem d_SS_writeOrder_100 : decode b_SS_writeOrder 100 = .ok (.ldc2_w 268, 3) := by decide +kernel
theorem d_SS_writeOrder_103 : decode b_SS_writeOrder 103 = .ok (.land, 1) := by decide +kernel
theorem d_SS_writeOrder_104 : decode b_SS_writeOrder 104 = .ok (.invokevirtual 270, 3) := by decide +kernel
theorem d_SS_writeOrder_107 : decode b_SS_writeOrder 107 = .ok (.aload 8, 2) := by decide +kernel
theorem d_SS_writeOrder_109 : decode b_SS_writeOrder 109 = .ok (.invokevirtual 274, 3) := by decide +kernel
theorem d_SS_writeOrder_112 : decode b_SS_writeOrder 112 = .ok (.aload_n 0, 1) := by decide +kernel
theorem d_SS_writeOrder_113 : decode b_SS_writeOrder 113 = .ok (.getfield 12, 3) := by decide +kernel
theorem d_SS_writeOrder_116 : decode b_SS_writeOrder 116 = .ok (.getfield 30, 3) := by decide +kernel
theorem d_SS_writeOrder_119 : decode b_SS_writeOrder 119 = .ok (.getfield 34, 3) := by decide +kernel
theorem d_SS_writeOrder_122 : decode b_SS_writeOrder 122 = .ok (.ireturn, 1) := by decide +kernel
theorem d_SS_writePiece_41 : decode b_SS_writePiece 41 = .ok (.lload_n 2, 1) := by decide +kernel
theorem d_SS_writePiece_42 : decode b_SS_writePiece 42 = .ok (.lconst 0, 1) := by decide +kernel
theorem d_SS_writePiece_43 : decode b_SS_writePiece 43 = .ok (.lcmp, 1) := by decide +kernel
theorem d_SS_writePiece_44 : decode b_SS_writePiece 44 = .ok (.ifCond .ge 8, 3) := by decide +kernel
theorem d_SS_writePiece_47 : decode b_SS_writePiece 47 = .ok (.bipush 9, 2) := by decide +kernel
theorem d_SS_writePiece_49 : decode b_SS_writePiece 49 = .ok (.goto 5, 3) := by decide +kernel
theorem d_SS_writePiece_52 : decode b_SS_writePiece 52 = .ok (.bipush 14, 2) := by decide +kernel
theorem d_SS_writePiece_54 : decode b_SS_writePiece 54 = .ok (.istore 7, 2) := by decide +kernel
theorem d_SS_writePiece_56 : decode b_SS_writePiece 56 = .ok (.aload_n 0, 1) := by decide +kernel
theorem d_SS_writePiece_57 : decode b_SS_writePiece 57 = .ok (.iload 7, 2) := by decide +kernel
theorem d_SS_writePiece_59 : decode b_SS_writePiece 59 = .ok (.iload 4, 2) := by decide +kernel
theorem d_SS_writePiece_61 : decode b_SS_writePiece 61 = .ok (.iadd, 1) := by decide +kernel
theorem d_SS_writePiece_62 : decode b_SS_writePiece 62 = .ok (.sipush 184, 3) := by decide +kernel
theorem d_SS_writePiece_65 : decode b_SS_writePiece 65 = .ok (.iadd, 1) := by decide +kernel
theorem d_SS_writePiece_66 : decode b_SS_writePiece 66 = .ok (.iconst 1, 1) := by decide +kernel
theorem d_SS_writePiece_67 : decode b_SS_writePiece 67 = .ok (.isub, 1) := by decide +kernel
theorem d_SS_writePiece_68 : decode b_SS_writePiece 68 = .ok (.sipush 184, 3) := by decide +kernel
theorem d_SS_writePiece_71 : decode b_SS_writePiece 71 = .ok (.idiv, 1) := by decide +kernel
theorem d_SS_writePiece_72 : decode b_SS_writePiece 72 = .ok (.invokevirtual 229, 3) := by decide +kernel
theorem d_SS_writePiece_75 : decode b_SS_writePiece 75 = .ok (.ifCond .eq 5, 3) := by decide +kernel
theorem d_SS_writePiece_80 : decode b_SS_writePiece 80 = .ok (.aload_n 0, 1) := by decide +kernel
theorem d_SS_writePiece_81 : decode b_SS_writePiece 81 = .ok (.iload_n 1, 1) := by decide +kernel
theorem d_SS_writePiece_82 : decode b_SS_writePiece 82 = .ok (.sipush 8191, 3) := by decide +kernel
theorem d_SS_writePiece_85 : decode b_SS_writePiece 85 = .ok (.iand, 1) := by decide +kernel
theorem d_SS_writePiece_86 : decode b_SS_writePiece 86 = .ok (.iload 7, 2) := by decide +kernel
theorem d_SS_writePiece_88 : decode b_SS_writePiece 88 = .ok (.iload 4, 2) := by decide +kernel
theorem d_SS_writePiece_90 : decode b_SS_writePiece 90 = .ok (.iadd, 1) := by decide +kernel
theorem d_SS_writePiece_91 : decode b_SS_writePiece 91 = .ok (.invokevirtual 232, 3) := by decide +kernel
theorem d_SS_writePiece_94 : decode b_SS_writePiece 94 = .ok (.astore 8, 2) := by decide +kernel
theorem d_SS_writePiece_96 : decode b_SS_writePiece 96 = .ok (.aload 8, 2) := by decide +kernel
theorem d_SS_writePiece_98 : decode b_SS_writePiece 98 = .ok (.iload_n 1, 1) := by decide +kernel
theorem d_SS_writePiece_99 : decode b_SS_writePiece 99 = .ok (.bipush 13, 2) := by decide +kernel
theorem d_SS_writePiece_101 : decode b_SS_writePiece 101 = .ok (.ishr, 1) := by decide +kernel
theorem d_SS_writePiece_102 : decode b_SS_writePiece 102 = .ok (.lload_n 2, 1) := by decide +kernel
theorem d_SS_writePiece_103 : decode b_SS_writePiece 103 = .ok (.iload 6, 2) := by decide +kernel
theorem d_SS_writePiece_105 : decode b_SS_writePiece 105 = .ok (.ifCond .eq 14, 3) := by decide +kernel
theorem d_SS_writePiece_108 : decode b_SS_writePiece 108 = .ok (.iload 7, 2) := by decide +kernel
theorem d_SS_writePiece_110 : decode b_SS_writePiece 110 = .ok (.bipush 6, 2) := by decide +kernel
theorem d_SS_writePiece_112 : decode b_SS_writePiece 112 = .ok (.isub, 1) := by decide +kernel
theorem d_SS_writePiece_113 : decode b_SS_writePiece 113 = .ok (.iload 4, 2) := by decide +kernel
theorem d_SS_writePiece_115 : decode b_SS_writePiece 115 = .ok (.iadd, 1) := by decide +kernel
theorem d_SS_writePiece_116 : decode b_SS_writePiece 116 = .ok (.goto 4, 3) := by decide +kernel
theorem d_SS_writePiece_119 : decode b_SS_writePiece 119 = .ok (.iconst 0, 1) := by decide +kernel
theorem d_SS_writePiece_120 : decode b_SS_writePiece 120 = .ok (.invokevirtual 252, 3) := by decide +kernel
theorem d_SS_writePiece_123 : decode b_SS_writePiece 123 = .ok (.aload 8, 2) := by decide +kernel
theorem d_SS_writePiece_125 : decode b_SS_writePiece 125 = .ok (.iload 4, 2) := by decide +kernel
theorem d_SS_writePiece_127 : decode b_SS_writePiece 127 = .ok (.iload 5, 2) := by decide +kernel
theorem d_SS_writePiece_129 : decode b_SS_writePiece 129 = .ok (.invokevirtual 256, 3) := by decide +kernel
theorem d_SS_writePiece_132 : decode b_SS_writePiece 132 = .ok (.aload_n 0, 1) := by decide +kernel
theorem d_SS_writePiece_133 : decode b_SS_writePiece 133 = .ok (.getfield 12, 3) := by decide +kernel
theorem d_SS_writePiece_136 : decode b_SS_writePiece 136 = .ok (.getfield 30, 3) := by decide +kernel
theorem d_SS_writePiece_139 : decode b_SS_writePiece 139 = .ok (.getfield 34, 3) := by decide +kernel
theorem d_SS_writePiece_142 : decode b_SS_writePiece 142 = .ok (.ireturn, 1) := by decide +kernel
/-! Writing through a new lane -/
theorem ws_new {pid w0 tot : Nat} {T : List Int32} {f : Nat → Int32} (h : rc f T) : WS pid w0 tot T [] (f, nI T.length, nI tot, 0, 0, nI w0) := by
  refine ⟨?_, ?_, rfl, ?_, rfl, ?_⟩
  · show rc f (T ++ ppL pid w0 tot 0 [])
    rw [show ppL pid w0 tot 0 [] = [] from by simp [ppL], List.append_nil]; exact h
  · show nI T.length = nI (T ++ ppL pid w0 tot 0 []).length
    rw [show ppL pid w0 tot 0 [] = [] from by simp [ppL], List.append_nil]
  · show (0 : Int32) = nI (rmOf tot 0)
    rfl
  · show nI w0 = nI (w0 + (0 + 183) / 184)
    rfl
theorem oh_len (nm : Int32) (t : Int64) : (ohL nm t).length = 15 := by unfold ohL; simp [bs_len]
theorem ob_le (how : Int32) (t t1 : Int64) : (obL how t t1).length ≤ 16 := by
  unfold obL
  split
  · simp only [List.length_append]
    repeat' split
    all_goals simp [bs_len]
  · simp [bs_len]
def shQ (x : Int64) : Int64 := (x.toUInt64 >>> ((33 : Int32).toInt64.toUInt64 &&& Int64.toUInt64 63)).toInt64
theorem tx_9 (t : Int64) : (if t < 0 then 9 else 14) = 9 + tx t := by
  unfold tx
  by_cases c : t < 0
  · rw [if_pos c, if_pos c]
  · rw [if_neg c, if_neg c]
theorem wr_8191 {k : Nat} (h : k < 2 ^ 31) : nI k &&& 8191 = nI (k % 8192) := pk_andN (by omega) 13 (by decide)
theorem wr_shr13 {k : Nat} (h : k < 2 ^ 31) : nI k >>> ((13 : Int32) &&& 31) = nI (k / 8192) := pk_shrN h _ 13 (by decide)
theorem rm_1 {n k : Nat} (h : n + 188 * k ≤ 9400) : ¬ (if 9400 < n + 188 * k then (1 : Int32) else 0) = 1 := by
  rw [if_neg (by omega)]; decide
theorem rm_0c {n k : Nat} (h : n + 188 * k ≤ 9400) : (if 9400 < n + 188 * k then (1 : Int32) else 0) = 0 := if_neg (by omega)

set_option maxHeartbeats 4000000 in
set_option maxRecDepth 100000 in
theorem c_SS_writePiece_new (l : Launch) (D : va_G) (hfl : l.stackTraces = false) (B0 : State) (hG : zG B0) (sz : Nat) (cB : ClassId) (h rv d tp tb ct dp : Nat) (a : Nat) (cN : ClassId) (ln hd : Nat) (hf : Nat → Option Nat) (T : List Int32) (f : Nat → Int32) (i9 n pid : Nat) (t0 : Int64) (sd fl : Int32) (hrc : rc f T) (hi9 : i9 ≤ 2097151) (hn4 : n ≤ 4000) (ht0 : t0 < 8589934592) (hpe : i9 % 8192 = pid) (hno : hf (pid % 256) = none) (hT : T.length + 188 * ((9 + tx t0 + n + 183) / 184) ≤ 9400) : MetT l y_SS_writePiece [Cond.code y_SS_writePiece b_SS_writePiece 9 (some .int)] ({ frames := 4, cells := 2, slots := 14, locals := 91 }) (zMo [.ref h, .int (nI i9), .long t0, .int (nI n), .int sd, .int fl] D [(h, .inr (11, [.ref rv, .ref d])), (rv, .inr (4, [.ref tp, .ref ln, .ref tb, .ref ct, .ref dp])), (ln, .inr (2, [.ref hd])), (hd, .inl (cN, 256, .inr (.inr (.inr (.inr hf))))), (tp, .inr (0, [.ref a, .int (nI T.length)])), (a, .inl (cB, 9400, .inl f))] [(cB, .byte), (cN, .object "StreamSplitter$Lane")] sz B0) (zQi (fun r0 (u : Nat × (Nat → Int32)) => r0 = nI (T ++ ppL pid 0 (9 + tx t0 + n) 0 ((([] : List Int32) ++ phL (nI (i9 / 8192)) t0 (if fl = 0 then 0 else nI (3 + tx t0 + n))) ++ gnL sd n)).length ∧ rc u.2 (T ++ ppL pid 0 (9 + tx t0 + n) 0 ((([] : List Int32) ++ phL (nI (i9 / 8192)) t0 (if fl = 0 then 0 else nI (3 + tx t0 + n))) ++ gnL sd n))) (fun (u : Nat × (Nat → Int32)) t => zW D (va_A [(h, .inr (11, [.ref rv, .ref d])), (rv, .inr (4, [.ref tp, .ref ln, .ref tb, .ref ct, .ref dp])), (ln, .inr (2, [.ref hd])), (hd, .inl (cN, 256, .inr (.inr (.inr (.inr hf))))), (tp, .inr (0, [.ref a, .int (nI T.length)])), (a, .inl (cB, 9400, .inl f))] sz) [(h, .inr (11, [.ref rv, .ref d])), (rv, .inr (4, [.ref tp, .ref ln, .ref tb, .ref ct, .ref dp])), (ln, .inr (2, [.ref hd])), (hd, .inl (cN, 256, .inr (.inr (.inr (.inr (va_up hf (pid % 256) (some u.1))))))), (tp, .inr (0, [.ref a, .int (nI (T ++ ppL pid 0 (9 + tx t0 + n) 0 ((([] : List Int32) ++ phL (nI (i9 / 8192)) t0 (if fl = 0 then 0 else nI (3 + tx t0 + n))) ++ gnL sd n)).length)])), (a, .inl (cB, 9400, .inl u.2)), (u.1, .inr (1, [.int (nI pid), .null, .int (-1), .int 0, .long (-1), .int (nI (0 + (9 + tx t0 + n + 183) / 184)), .null, .null]))] [(cB, .byte), (cN, .object "StreamSplitter$Lane")] t) (va_A [(h, .inr (11, [.ref rv, .ref d])), (rv, .inr (4, [.ref tp, .ref ln, .ref tb, .ref ct, .ref dp])), (ln, .inr (2, [.ref hd])), (hd, .inl (cN, 256, .inr (.inr (.inr (.inr hf))))), (tp, .inr (0, [.ref a, .int (nI T.length)])), (a, .inl (cB, 9400, .inl f))] sz) (fun _ => False)) 2 14 (va_A [(h, .inr (11, [.ref rv, .ref d])), (rv, .inr (4, [.ref tp, .ref ln, .ref tb, .ref ct, .ref dp])), (ln, .inr (2, [.ref hd])), (hd, .inl (cN, 256, .inr (.inr (.inr (.inr hf))))), (tp, .inr (0, [.ref a, .int (nI T.length)])), (a, .inl (cB, 9400, .inl f))] sz) := by
  refine MetT.ofW (cc := b_SS_writePiece) (maxL := 9) (ret := (some .int)) (by decide) rfl ?_
  intro p e s m args below meth cd s₁ Bd hml hem hv
  obtain ⟨rfl, hsz, hP, hK, hN, hD0, hO⟩ := hv
  have hx := Bd.exec
  have hb := Bd.bytes
  have hr := Bd.returns
  have hts := hN.use (a := ([.ref h, .int (nI i9), .long t0, .int (nI n), .int sd, .int fl]).toArray)
  have hown : s.vm.findClass R_SS = some m.cls := findClass_of_methodNamed Bd.named
  have hlocks := Bd.notSynchronized
  subst hsz
  have hD := hD0.self (sz := s.heap.size)
  have hAO := z_AO hD0 hO
  clear hD0
  have hA : ∀ q : Nat, s.heap.size ≤ q → va_A [(h, .inr (11, [.ref rv, .ref d])), (rv, .inr (4, [.ref tp, .ref ln, .ref tb, .ref ct, .ref dp])), (ln, .inr (2, [.ref hd])), (hd, .inl (cN, 256, .inr (.inr (.inr (.inr hf))))), (tp, .inr (0, [.ref a, .int (nI T.length)])), (a, .inl (cB, 9400, .inl f))] s.heap.size q := fun q h => Or.inr h
  have hS : va_S (va_A [(h, .inr (11, [.ref rv, .ref d])), (rv, .inr (4, [.ref tp, .ref ln, .ref tb, .ref ct, .ref dp])), (ln, .inr (2, [.ref hd])), (hd, .inl (cN, 256, .inr (.inr (.inr (.inr hf))))), (tp, .inr (0, [.ref a, .int (nI T.length)])), (a, .inl (cB, 9400, .inl f))] s.heap.size) s.heap s.heap [] := va_S.rf
  generalize hAe : va_A [(h, .inr (11, [.ref rv, .ref d])), (rv, .inr (4, [.ref tp, .ref ln, .ref tb, .ref ct, .ref dp])), (ln, .inr (2, [.ref hd])), (hd, .inl (cN, 256, .inr (.inr (.inr (.inr hf))))), (tp, .inr (0, [.ref a, .int (nI T.length)])), (a, .inl (cB, 9400, .inl f))] s.heap.size = A at hD hA hS hAO ⊢
  have hP : va_P D classes [(h, .inr (11, [.ref rv, .ref d])), (rv, .inr (4, [.ref tp, .ref ln, .ref tb, .ref ct, .ref dp])), (ln, .inr (2, [.ref hd])), (hd, .inl (cN, 256, .inr (.inr (.inr (.inr hf))))), (tp, .inr (0, [.ref a, .int (nI T.length)])), (a, .inl (cB, 9400, .inl f))] s.heap := hP
  have hl := lv_entry ([.ref h, .int (nI i9), .long t0, .int (nI n), .int sd, .int fl]) (n := 9) (Nat.le_of_ble_eq_true rfl)
  rw [lg_entry_eq]
  generalize (lg_sl ([.ref h, .int (nI i9), .long t0, .int (nI n), .int sd, .int fl]) ++ List.replicate (9 - (lg_sl ([.ref h, .int (nI i9), .long t0, .int (nI n), .int sd, .int fl])).length) Slot.unset).toArray = ls at hl ⊢
  have hl : lv_has ls 9 [(0, .ref h), (1, .int (nI i9)), (2, .long t0), (4, .int (nI n)), (5, .int sd), (6, .int fl)] := hl
  have htx := tx_le t0
  have htot : 9 + tx t0 + n ≤ 4100 := by omega
  have hw0 : (0 : Nat) < 2 ^ 29 := by omega
  have hpid : pid < 8192 := by omega
  refine lv_iload_n hx hb d_SS_writePiece_0 rfl (lv_at hl 1 rfl) ?_
  refine lv_if_lt (tgt := 31) hx hb d_SS_writePiece_1 rfl (fun h9 => absurd h9 (nI_pos (by omega))) (fun h1 => ?_)
  refine lv_iload_n hx hb d_SS_writePiece_4 rfl (lv_at hl 1 rfl) ?_
  refine lv_ldc hx hb hown (hts _ wd_1037) d_SS_writePiece_5 ?_
  refine lv_icmp_gt (tgt := 31) hx hb d_SS_writePiece_7 rfl (fun h9 => absurd (nI_le (a := i9) (b := 2097151) hi9 (by decide)) (Int32.not_le.mpr h9)) (fun h7 => ?_)
  refine lv_iload hx hb d_SS_writePiece_10 (lv_at hl 3 rfl) ?_
  refine lv_if_lt (tgt := 31) hx hb d_SS_writePiece_12 rfl (fun h9 => absurd h9 (nI_pos (by omega))) (fun h12 => ?_)
  refine lv_iload hx hb d_SS_writePiece_15 (lv_at hl 3 rfl) ?_
  refine lv_sipush (v := 4000) hx hb d_SS_writePiece_17 (by decide) ?_
  refine lv_icmp_gt (tgt := 31) hx hb d_SS_writePiece_20 rfl (fun h9 => absurd (nI_le (a := n) (b := 4000) hn4 (by decide)) (Int32.not_le.mpr h9)) (fun h20 => ?_)
  refine lv_lload_n hx hb d_SS_writePiece_23 rfl (lv_at hl 2 rfl) ?_
  refine lv_ldc2 hx hb hown (hts _ wd_1038) d_SS_writePiece_24 ?_
  refine W.lcmp hx hb d_SS_writePiece_27 ?_
  refine lv_if_lt (tgt := 41) hx hb d_SS_writePiece_28 rfl (fun h28 => ?_) (fun h9 => absurd ((lg_cmp_lt _ _).mpr ht0) h9)
  refine lv_lload_n hx hb d_SS_writePiece_41 rfl (lv_at hl 2 rfl) ?_
  refine lv_lconst (v := 0) hx hb d_SS_writePiece_42 (by decide) ?_
  refine W.lcmp hx hb d_SS_writePiece_43 ?_
  suffices key44 : W p l e ({ frames := 4, cells := 2, slots := 14, locals := 91 }) s m ([.ref h, .int (nI i9), .long t0, .int (nI n), .int sd, .int fl]).toArray below meth cd s.heap [] 0 0 (MQT below (zQi (fun r0 (u : Nat × (Nat → Int32)) => r0 = nI (T ++ ppL pid 0 (9 + tx t0 + n) 0 ((([] : List Int32) ++ phL (nI (i9 / 8192)) t0 (if fl = 0 then 0 else nI (3 + tx t0 + n))) ++ gnL sd n)).length ∧ rc u.2 (T ++ ppL pid 0 (9 + tx t0 + n) 0 ((([] : List Int32) ++ phL (nI (i9 / 8192)) t0 (if fl = 0 then 0 else nI (3 + tx t0 + n))) ++ gnL sd n))) (fun (u : Nat × (Nat → Int32)) t => zW D (A) [(h, .inr (11, [.ref rv, .ref d])), (rv, .inr (4, [.ref tp, .ref ln, .ref tb, .ref ct, .ref dp])), (ln, .inr (2, [.ref hd])), (hd, .inl (cN, 256, .inr (.inr (.inr (.inr (va_up hf (pid % 256) (some u.1))))))), (tp, .inr (0, [.ref a, .int (nI (T ++ ppL pid 0 (9 + tx t0 + n) 0 ((([] : List Int32) ++ phL (nI (i9 / 8192)) t0 (if fl = 0 then 0 else nI (3 + tx t0 + n))) ++ gnL sd n)).length)])), (a, .inl (cB, 9400, .inl u.2)), (u.1, .inr (1, [.int (nI pid), .null, .int (-1), .int 0, .long (-1), .int (nI (0 + (9 + tx t0 + n + 183) / 184)), .null, .null]))] [(cB, .byte), (cN, .object "StreamSplitter$Lane")] t) (A) (fun _ => False)) ([.ref h, .int (nI i9), .long t0, .int (nI n), .int sd, .int fl]).toArray s 2 14 (A)) (F0 m 54 ls [.int (nI (9 + tx t0))]) by
    refine lv_if_ge (tgt := 52) hx hb d_SS_writePiece_44 rfl (fun h44 => ?_) (fun h44 => ?_)
    · refine lv_bipush (v := 14) hx hb d_SS_writePiece_52 (by decide) ?_
      refine z_topi (w := (nI (9 + tx t0))) (by unfold tx; rw [if_neg (Int64.not_lt.mpr ((lg_cmp_ge _ _).mp h44))]; rfl) ?_
      exact key44
    · refine lv_bipush (v := 9) hx hb d_SS_writePiece_47 (by decide) ?_
      refine lv_goto (tgt := 54) hx hb d_SS_writePiece_49 rfl ?_
      refine z_topi (w := (nI (9 + tx t0))) (by unfold tx; rw [if_pos (Int64.not_le.mp (mt (lg_cmp_ge _ _).mpr h44))]; rfl) ?_
      exact key44
  refine lv_istore (lv' := [(7, .int (nI (9 + tx t0))), (0, .ref h), (1, .int (nI i9)), (2, .long t0), (4, .int (nI n)), (5, .int sd), (6, .int fl)]) hx hb d_SS_writePiece_54 hl (by decide) rfl (fun ls hl => ?_)
  refine lv_aload_n hx hb d_SS_writePiece_56 rfl (lv_at hl 1 rfl) ?_
  refine lv_iload hx hb d_SS_writePiece_57 (lv_at hl 0 rfl) ?_
  refine lv_iload hx hb d_SS_writePiece_59 (lv_at hl 4 rfl) ?_
  refine lv_iadd hx hb d_SS_writePiece_61 ?_
  refine z_topi (w := nI (9 + tx t0 + n)) (nI_add _ _) ?_
  refine lv_sipush (v := 184) hx hb d_SS_writePiece_62 (by decide) ?_
  refine lv_iadd hx hb d_SS_writePiece_65 ?_
  refine z_topi (w := nI (9 + tx t0 + n + 184)) (nI_add _ 184) ?_
  refine lv_iconst (v := 1) hx hb d_SS_writePiece_66 (by decide) ?_
  refine lv_isub hx hb d_SS_writePiece_67 ?_
  refine z_topi (w := nI (9 + tx t0 + n + 184 - 1)) (pk_sub (b := 1) (by omega)) ?_
  refine lv_sipush (v := 184) hx hb d_SS_writePiece_68 (by decide) ?_
  refine lv_idiv hx hb d_SS_writePiece_71 (by decide) ?_
  refine z_topi (w := nI ((9 + tx t0 + n + 184 - 1) / 184)) (pk_div (d := 184) (by omega) (by omega) (by omega)) ?_
  have hPc := hP.sub (ws' := [(h, .inr (11, [.ref rv, .ref d])), (rv, .inr (4, [.ref tp, .ref ln, .ref tb, .ref ct, .ref dp])), (tp, .inr (0, [.ref a, .int (nI T.length)])), (a, .inl (cB, 9400, .inl f))]) [0, 1, 4, 5] rfl
  have hKc := hK.sub (tys' := [(cB, .byte)]) [0] rfl
  refine z_ci (va_runV (As := [.int (nI ((9 + tx t0 + n + 184 - 1) / 184))]) (rest := []) ⟨hx, hb, hml, hown, hts⟩ (c_SS_hasNoRoom l D cB h d rv ln tb ct dp tp a T.length f ((9 + tx t0 + n + 184 - 1) / 184) (by omega) (by omega)) (z_cV hN wd_940 wd_59 wd_937 hd_SS_hasNoRoom rfl rfl ⟨Nat.le_of_ble_eq_true rfl, Nat.le_of_ble_eq_true rfl⟩ wd_939 wd_20) (z_preV (va_recv (ci := 11) (q0 := 0) hK hP rfl rfl) hPc hKc hN) rfl rfl hl.1 rfl (lv_room (Nat.le_of_ble_eq_true rfl)) d_SS_writePiece_72 ⟨Nat.le_of_ble_eq_true rfl, Nat.le_of_ble_eq_true rfl⟩) (fun r72 e72 => ?_)
  subst e72
  refine lv_if_eq (tgt := 80) hx hb d_SS_writePiece_75 rfl (fun h75 => ?_) (fun h9 => absurd (rm_0c (by omega)) h9)
  refine lv_aload_n hx hb d_SS_writePiece_80 rfl (lv_at hl 1 rfl) ?_
  refine lv_iload_n hx hb d_SS_writePiece_81 rfl (lv_at hl 2 rfl) ?_
  refine lv_sipush (v := 8191) hx hb d_SS_writePiece_82 (by decide) ?_
  refine lv_iand hx hb d_SS_writePiece_85 ?_
  refine z_topi (w := nI pid) (by rw [← hpe]; exact wr_8191 (by omega)) ?_
  refine lv_iload hx hb d_SS_writePiece_86 (lv_at hl 0 rfl) ?_
  refine lv_iload hx hb d_SS_writePiece_88 (lv_at hl 4 rfl) ?_
  refine lv_iadd hx hb d_SS_writePiece_90 ?_
  refine z_topi (w := nI (9 + tx t0 + n)) (nI_add _ _) ?_
  have hPc := hP.sub (ws' := [(h, .inr (11, [.ref rv, .ref d])), (rv, .inr (4, [.ref tp, .ref ln, .ref tb, .ref ct, .ref dp])), (ln, .inr (2, [.ref hd])), (hd, .inl (cN, 256, .inr (.inr (.inr (.inr hf)))))]) [0, 1, 2, 3] rfl
  have hKc := hK.sub (tys' := [(cN, .object "StreamSplitter$Lane")]) [1] rfl
  have hDc := hD.sub (ws' := [(h, .inr (11, [.ref rv, .ref d])), (rv, .inr (4, [.ref tp, .ref ln, .ref tb, .ref ct, .ref dp])), (ln, .inr (2, [.ref hd])), (hd, .inl (cN, 256, .inr (.inr (.inr (.inr hf)))))]) [0, 1, 2, 3] (by decide) rfl
  have hFc := va_free (wc := [(h, .inr (11, [.ref rv, .ref d])), (rv, .inr (4, [.ref tp, .ref ln, .ref tb, .ref ct, .ref dp])), (ln, .inr (2, [.ref hd])), (hd, .inl (cN, 256, .inr (.inr (.inr (.inr hf)))))]) hD hS hA [0, 1, 2, 3] rfl
  refine va_callr (va_runV (As := [.int (nI pid), .int (nI (9 + tx t0 + n))]) (rest := []) ⟨hx, hb, hml, hown, hts⟩ (c_SS_writerTo0 l D s.heap.size h rv d tp tb ct dp cN ln hd hf pid (nI (9 + tx t0 + n)) hpid hno) (z_cV hN wd_944 wd_59 wd_941 hd_SS_writerTo rfl rfl ⟨Nat.le_of_ble_eq_true rfl, Nat.le_of_ble_eq_true rfl⟩ wd_943 wd_21) (z_preVm (va_recv (ci := 11) (q0 := 0) hK hP rfl rfl) hPc hKc hN hDc) rfl rfl hl.1 rfl (lv_room (Nat.le_of_ble_eq_true rfl)) d_SS_writePiece_91 ⟨Nat.le_of_ble_eq_true rfl, Nat.le_of_ble_eq_true rfl⟩) hS (fun q _ h => hFc q h) hFc (fun la w t H locs ht hvm e91 hB hz1 hk1 hS => ?_)
  obtain ⟨hP1, hK1, hD1⟩ := hB
  rw [ht] at hP1
  obtain ⟨hP, hD⟩ := va_join (wr := [(tp, .inr (0, [.ref a, .int (nI T.length)])), (a, .inl (cB, 9400, .inl f))]) (w1 := [(h, .inr (11, [.ref rv, .ref d])), (rv, .inr (4, [.ref tp, .ref ln, .ref tb, .ref ct, .ref dp])), (ln, .inr (2, [.ref hd])), (hd, .inl (cN, 256, .inr (.inr (.inr (.inr (va_up hf (pid % 256) (some la))))))), (la, .inr (1, [.int (nI pid), .null, .int (-1), .int 0, .long (-1), .int 0, .null, .null])), (w, .inr (10, [.ref tp, .ref la, .int (nI (9 + tx t0 + n)), .int 0, .int 0, .int 0]))]) hP hD [0, 1, 2, 3] [4, 5] rfl rfl (by decide) (by decide) hk1 hFc hP1 hD1
  clear hk1 hP1 hD1 hFc hPc hDc hz1
  have hP : va_P D classes [(tp, .inr (0, [.ref a, .int (nI T.length)])), (a, .inl (cB, 9400, .inl f)), (h, .inr (11, [.ref rv, .ref d])), (rv, .inr (4, [.ref tp, .ref ln, .ref tb, .ref ct, .ref dp])), (ln, .inr (2, [.ref hd])), (hd, .inl (cN, 256, .inr (.inr (.inr (.inr (va_up hf (pid % 256) (some la))))))), (la, .inr (1, [.int (nI pid), .null, .int (-1), .int 0, .long (-1), .int 0, .null, .null])), (w, .inr (10, [.ref tp, .ref la, .int (nI (9 + tx t0 + n)), .int 0, .int 0, .int 0]))] H := hP
  have hD : va_D A [(tp, .inr (0, [.ref a, .int (nI T.length)])), (a, .inl (cB, 9400, .inl f)), (h, .inr (11, [.ref rv, .ref d])), (rv, .inr (4, [.ref tp, .ref ln, .ref tb, .ref ct, .ref dp])), (ln, .inr (2, [.ref hd])), (hd, .inl (cN, 256, .inr (.inr (.inr (.inr (va_up hf (pid % 256) (some la))))))), (la, .inr (1, [.int (nI pid), .null, .int (-1), .int 0, .long (-1), .int 0, .null, .null])), (w, .inr (10, [.ref tp, .ref la, .int (nI (9 + tx t0 + n)), .int 0, .int 0, .int 0]))] := hD
  obtain ⟨q, hqe⟩ : ∃ q : WQ, q = (f, nI T.length, nI (9 + tx t0 + n), 0, 0, nI 0) := ⟨_, rfl⟩
  have hws : WS pid 0 (9 + tx t0 + n) T [] q := by rw [hqe]; exact ws_new hrc
  have hP : va_P D classes [(tp, .inr (0, [.ref a, .int q.2.1])), (a, .inl (cB, 9400, .inl q.1)), (h, .inr (11, [.ref rv, .ref d])), (rv, .inr (4, [.ref tp, .ref ln, .ref tb, .ref ct, .ref dp])), (ln, .inr (2, [.ref hd])), (hd, .inl (cN, 256, .inr (.inr (.inr (.inr (va_up hf (pid % 256) (some la))))))), (la, .inr (1, [.int (nI pid), .null, .int (-1), .int 0, .long (-1), .int q.2.2.2.2.2, .null, .null])), (w, .inr (10, [.ref tp, .ref la, .int q.2.2.1, .int q.2.2.2.1, .int q.2.2.2.2.1, .int 0]))] H := by rw [hqe]; exact hP
  have hD : va_D A [(tp, .inr (0, [.ref a, .int q.2.1])), (a, .inl (cB, 9400, .inl q.1)), (h, .inr (11, [.ref rv, .ref d])), (rv, .inr (4, [.ref tp, .ref ln, .ref tb, .ref ct, .ref dp])), (ln, .inr (2, [.ref hd])), (hd, .inl (cN, 256, .inr (.inr (.inr (.inr (va_up hf (pid % 256) (some la))))))), (la, .inr (1, [.int (nI pid), .null, .int (-1), .int 0, .long (-1), .int q.2.2.2.2.2, .null, .null])), (w, .inr (10, [.ref tp, .ref la, .int q.2.2.1, .int q.2.2.2.1, .int q.2.2.2.2.1, .int 0]))] := by rw [hqe]; exact hD
  clear hqe
  refine lv_astore (lv' := [(8, .ref w), (7, .int (nI (9 + tx t0))), (0, .ref h), (1, .int (nI i9)), (2, .long t0), (4, .int (nI n)), (5, .int sd), (6, .int fl)]) hx hb d_SS_writePiece_94 hl (by decide) rfl (fun ls hl => ?_)
  refine lv_aload hx hb d_SS_writePiece_96 (lv_at hl 0 rfl) ?_
  refine lv_iload_n hx hb d_SS_writePiece_98 rfl (lv_at hl 3 rfl) ?_
  refine lv_bipush (v := 13) hx hb d_SS_writePiece_99 (by decide) ?_
  refine lv_ishr hx hb d_SS_writePiece_101 ?_
  refine z_topi (w := nI (i9 / 8192)) (wr_shr13 (by omega)) ?_
  refine lv_lload_n hx hb d_SS_writePiece_102 rfl (lv_at hl 4 rfl) ?_
  refine lv_iload hx hb d_SS_writePiece_103 (lv_at hl 7 rfl) ?_
  suffices key105 : W p l e ({ frames := 4, cells := 2, slots := 14, locals := 91 }) s m ([.ref h, .int (nI i9), .long t0, .int (nI n), .int sd, .int fl]).toArray below meth cd H locs (0 + 2) (0 + 14) (MQT below (zQi (fun r0 (u : Nat × (Nat → Int32)) => r0 = nI (T ++ ppL pid 0 (9 + tx t0 + n) 0 ((([] : List Int32) ++ phL (nI (i9 / 8192)) t0 (if fl = 0 then 0 else nI (3 + tx t0 + n))) ++ gnL sd n)).length ∧ rc u.2 (T ++ ppL pid 0 (9 + tx t0 + n) 0 ((([] : List Int32) ++ phL (nI (i9 / 8192)) t0 (if fl = 0 then 0 else nI (3 + tx t0 + n))) ++ gnL sd n))) (fun (u : Nat × (Nat → Int32)) t => zW D (A) [(h, .inr (11, [.ref rv, .ref d])), (rv, .inr (4, [.ref tp, .ref ln, .ref tb, .ref ct, .ref dp])), (ln, .inr (2, [.ref hd])), (hd, .inl (cN, 256, .inr (.inr (.inr (.inr (va_up hf (pid % 256) (some u.1))))))), (tp, .inr (0, [.ref a, .int (nI (T ++ ppL pid 0 (9 + tx t0 + n) 0 ((([] : List Int32) ++ phL (nI (i9 / 8192)) t0 (if fl = 0 then 0 else nI (3 + tx t0 + n))) ++ gnL sd n)).length)])), (a, .inl (cB, 9400, .inl u.2)), (u.1, .inr (1, [.int (nI pid), .null, .int (-1), .int 0, .long (-1), .int (nI (0 + (9 + tx t0 + n + 183) / 184)), .null, .null]))] [(cB, .byte), (cN, .object "StreamSplitter$Lane")] t) (A) (fun _ => False)) ([.ref h, .int (nI i9), .long t0, .int (nI n), .int sd, .int fl]).toArray s 2 14 (A)) (F0 m 120 ls [.int (if fl = 0 then 0 else nI (3 + tx t0 + n)), .long t0, .int (nI (i9 / 8192)), .ref w]) by
    refine lv_if_eq (tgt := 119) hx hb d_SS_writePiece_105 rfl (fun h105 => ?_) (fun h105 => ?_)
    · refine lv_iconst (v := 0) hx hb d_SS_writePiece_119 (by decide) ?_
      refine z_topi (w := (if fl = 0 then 0 else nI (3 + tx t0 + n))) ((if_pos h105).symm) ?_
      exact key105
    · refine lv_iload hx hb d_SS_writePiece_108 (lv_at hl 1 rfl) ?_
      refine lv_bipush (v := 6) hx hb d_SS_writePiece_110 (by decide) ?_
      refine lv_isub hx hb d_SS_writePiece_112 ?_
      refine z_topi (w := nI (3 + tx t0)) (by rw [show (6 : Int32) = nI 6 from rfl, pk_sub (by omega)]; congr 1; omega) ?_
      refine lv_iload hx hb d_SS_writePiece_113 (lv_at hl 5 rfl) ?_
      refine lv_iadd hx hb d_SS_writePiece_115 ?_
      refine z_topi (w := nI (3 + tx t0 + n)) (nI_add _ _) ?_
      refine lv_goto (tgt := 120) hx hb d_SS_writePiece_116 rfl ?_
      refine z_topi (w := (if fl = 0 then 0 else nI (3 + tx t0 + n))) ((if_neg h105).symm) ?_
      exact key105
  have hPc := hP.sub (ws' := [(w, .inr (10, [.ref tp, .ref la, .int q.2.2.1, .int q.2.2.2.1, .int q.2.2.2.2.1, .int 0])), (la, .inr (1, [.int (nI pid), va_rf none, .int (-1), .int 0, .long (-1), .int q.2.2.2.2.2, va_rf none, va_rf none])), (tp, .inr (0, [.ref a, .int q.2.1])), (a, .inl (cB, 9400, .inl q.1))]) [7, 6, 0, 1] rfl
  have hKc := hK.sub (tys' := [(cB, .byte)]) [0] rfl
  have hDc := hD.sub (ws' := [(w, .inr (10, [.ref tp, .ref la, .int q.2.2.1, .int q.2.2.2.1, .int q.2.2.2.2.1, .int 0])), (la, .inr (1, [.int (nI pid), va_rf none, .int (-1), .int 0, .long (-1), .int q.2.2.2.2.2, va_rf none, va_rf none])), (tp, .inr (0, [.ref a, .int q.2.1])), (a, .inl (cB, 9400, .inl q.1))]) [7, 6, 0, 1] (by decide) rfl
  have hFc := va_free (wc := [(w, .inr (10, [.ref tp, .ref la, .int q.2.2.1, .int q.2.2.2.1, .int q.2.2.2.2.1, .int 0])), (la, .inr (1, [.int (nI pid), va_rf none, .int (-1), .int 0, .long (-1), .int q.2.2.2.2.2, va_rf none, va_rf none])), (tp, .inr (0, [.ref a, .int q.2.1])), (a, .inl (cB, 9400, .inl q.1))]) hD hS hA [7, 6, 0, 1] rfl
  refine va_callv (va_runV (As := [.int (nI (i9 / 8192)), .long t0, .int (if fl = 0 then 0 else nI (3 + tx t0 + n))]) (rest := []) ⟨hx, hb, hml, hown, hts⟩ (c_Writer_putPieceHead l D H.size cB w tp a q 0 la none none none (-1) 0 (-1) pid 0 (9 + tx t0 + n) T ([] : List Int32) (nI (i9 / 8192)) t0 (if fl = 0 then 0 else nI (3 + tx t0 + n)) hws htot hT hpid hw0 (by rw [tx_9, List.length_nil]; omega)) (z_cV hN wd_1043 wd_85 wd_1040 hd_Writer_putPieceHead rfl rfl ⟨Nat.le_of_ble_eq_true rfl, Nat.le_of_ble_eq_true rfl⟩ wd_1041 wd_1042) (z_preVm (va_recv (ci := 10) (q0 := 7) hK hP rfl rfl) hPc hKc hN hDc) rfl rfl hl.1 rfl (lv_room (Nat.le_of_ble_eq_true rfl)) d_SS_writePiece_120 ⟨Nat.le_of_ble_eq_true rfl, Nat.le_of_ble_eq_true rfl⟩) hS (fun q _ h => hFc q h) hFc (fun q120 t H locs ht hvm e120 hB hz1 hk1 hS => ?_)
  obtain ⟨hP1, hK1, hD1⟩ := hB
  rw [ht] at hP1
  obtain ⟨hP, hD⟩ := va_join (wr := [(h, .inr (11, [.ref rv, .ref d])), (rv, .inr (4, [.ref tp, .ref ln, .ref tb, .ref ct, .ref dp])), (ln, .inr (2, [.ref hd])), (hd, .inl (cN, 256, .inr (.inr (.inr (.inr (va_up hf (pid % 256) (some la)))))))]) (w1 := [(w, .inr (10, [.ref tp, .ref la, .int q120.2.2.1, .int q120.2.2.2.1, .int q120.2.2.2.2.1, .int 0])), (la, .inr (1, [.int (nI pid), va_rf none, .int (-1), .int 0, .long (-1), .int q120.2.2.2.2.2, va_rf none, va_rf none])), (tp, .inr (0, [.ref a, .int q120.2.1])), (a, .inl (cB, 9400, .inl q120.1))]) hP hD [7, 6, 0, 1] [2, 3, 4, 5] rfl rfl (by decide) (by decide) hk1 hFc hP1 hD1
  clear hk1 hP1 hD1 hFc hPc hDc hz1
  have hP : va_P D classes [(h, .inr (11, [.ref rv, .ref d])), (rv, .inr (4, [.ref tp, .ref ln, .ref tb, .ref ct, .ref dp])), (ln, .inr (2, [.ref hd])), (hd, .inl (cN, 256, .inr (.inr (.inr (.inr (va_up hf (pid % 256) (some la))))))), (w, .inr (10, [.ref tp, .ref la, .int q120.2.2.1, .int q120.2.2.2.1, .int q120.2.2.2.2.1, .int 0])), (la, .inr (1, [.int (nI pid), va_rf none, .int (-1), .int 0, .long (-1), .int q120.2.2.2.2.2, va_rf none, va_rf none])), (tp, .inr (0, [.ref a, .int q120.2.1])), (a, .inl (cB, 9400, .inl q120.1))] H := hP
  have hD : va_D A [(h, .inr (11, [.ref rv, .ref d])), (rv, .inr (4, [.ref tp, .ref ln, .ref tb, .ref ct, .ref dp])), (ln, .inr (2, [.ref hd])), (hd, .inl (cN, 256, .inr (.inr (.inr (.inr (va_up hf (pid % 256) (some la))))))), (w, .inr (10, [.ref tp, .ref la, .int q120.2.2.1, .int q120.2.2.2.1, .int q120.2.2.2.2.1, .int 0])), (la, .inr (1, [.int (nI pid), va_rf none, .int (-1), .int 0, .long (-1), .int q120.2.2.2.2.2, va_rf none, va_rf none])), (tp, .inr (0, [.ref a, .int q120.2.1])), (a, .inl (cB, 9400, .inl q120.1))] := hD
  refine lv_aload hx hb d_SS_writePiece_123 (lv_at hl 0 rfl) ?_
  refine lv_iload hx hb d_SS_writePiece_125 (lv_at hl 5 rfl) ?_
  refine lv_iload hx hb d_SS_writePiece_127 (lv_at hl 6 rfl) ?_
  have hPc := hP.sub (ws' := [(w, .inr (10, [.ref tp, .ref la, .int q120.2.2.1, .int q120.2.2.2.1, .int q120.2.2.2.2.1, .int 0])), (la, .inr (1, [.int (nI pid), va_rf none, .int (-1), .int 0, .long (-1), .int q120.2.2.2.2.2, va_rf none, va_rf none])), (tp, .inr (0, [.ref a, .int q120.2.1])), (a, .inl (cB, 9400, .inl q120.1))]) [4, 5, 6, 7] rfl
  have hKc := hK.sub (tys' := [(cB, .byte)]) [0] rfl
  have hDc := hD.sub (ws' := [(w, .inr (10, [.ref tp, .ref la, .int q120.2.2.1, .int q120.2.2.2.1, .int q120.2.2.2.2.1, .int 0])), (la, .inr (1, [.int (nI pid), va_rf none, .int (-1), .int 0, .long (-1), .int q120.2.2.2.2.2, va_rf none, va_rf none])), (tp, .inr (0, [.ref a, .int q120.2.1])), (a, .inl (cB, 9400, .inl q120.1))]) [4, 5, 6, 7] (by decide) rfl
  have hFc := va_free (wc := [(w, .inr (10, [.ref tp, .ref la, .int q120.2.2.1, .int q120.2.2.2.1, .int q120.2.2.2.2.1, .int 0])), (la, .inr (1, [.int (nI pid), va_rf none, .int (-1), .int 0, .long (-1), .int q120.2.2.2.2.2, va_rf none, va_rf none])), (tp, .inr (0, [.ref a, .int q120.2.1])), (a, .inl (cB, 9400, .inl q120.1))]) hD hS hA [4, 5, 6, 7] rfl
  refine va_callv (va_runV (As := [.int (nI n), .int sd]) (rest := []) ⟨hx, hb, hml, hown, hts⟩ (c_Writer_putData l D H.size cB w tp a q120 0 la none none none (-1) 0 (-1) pid 0 (9 + tx t0 + n) T (([] : List Int32) ++ phL (nI (i9 / 8192)) t0 (if fl = 0 then 0 else nI (3 + tx t0 + n))) n sd e120 htot hT hpid hw0 (by rw [List.length_append, List.length_nil, ph_len, tx_9]; omega) hn4) (z_cV hN wd_1051 wd_85 wd_1048 hd_Writer_putData rfl rfl ⟨Nat.le_of_ble_eq_true rfl, Nat.le_of_ble_eq_true rfl⟩ wd_1049 wd_1050) (z_preVm (va_recv (ci := 10) (q0 := 4) hK hP rfl rfl) hPc hKc hN hDc) rfl rfl hl.1 rfl (lv_room (Nat.le_of_ble_eq_true rfl)) d_SS_writePiece_129 ⟨Nat.le_of_ble_eq_true rfl, Nat.le_of_ble_eq_true rfl⟩) hS (fun q _ h => hFc q h) hFc (fun q129 t H locs ht hvm e129 hB hz1 hk1 hS => ?_)
  obtain ⟨hP1, hK1, hD1⟩ := hB
  rw [ht] at hP1
  obtain ⟨hP, hD⟩ := va_join (wr := [(h, .inr (11, [.ref rv, .ref d])), (rv, .inr (4, [.ref tp, .ref ln, .ref tb, .ref ct, .ref dp])), (ln, .inr (2, [.ref hd])), (hd, .inl (cN, 256, .inr (.inr (.inr (.inr (va_up hf (pid % 256) (some la)))))))]) (w1 := [(w, .inr (10, [.ref tp, .ref la, .int q129.2.2.1, .int q129.2.2.2.1, .int q129.2.2.2.2.1, .int 0])), (la, .inr (1, [.int (nI pid), va_rf none, .int (-1), .int 0, .long (-1), .int q129.2.2.2.2.2, va_rf none, va_rf none])), (tp, .inr (0, [.ref a, .int q129.2.1])), (a, .inl (cB, 9400, .inl q129.1))]) hP hD [4, 5, 6, 7] [0, 1, 2, 3] rfl rfl (by decide) (by decide) hk1 hFc hP1 hD1
  clear hk1 hP1 hD1 hFc hPc hDc hz1
  have hP : va_P D classes [(h, .inr (11, [.ref rv, .ref d])), (rv, .inr (4, [.ref tp, .ref ln, .ref tb, .ref ct, .ref dp])), (ln, .inr (2, [.ref hd])), (hd, .inl (cN, 256, .inr (.inr (.inr (.inr (va_up hf (pid % 256) (some la))))))), (w, .inr (10, [.ref tp, .ref la, .int q129.2.2.1, .int q129.2.2.2.1, .int q129.2.2.2.2.1, .int 0])), (la, .inr (1, [.int (nI pid), va_rf none, .int (-1), .int 0, .long (-1), .int q129.2.2.2.2.2, va_rf none, va_rf none])), (tp, .inr (0, [.ref a, .int q129.2.1])), (a, .inl (cB, 9400, .inl q129.1))] H := hP
  have hD : va_D A [(h, .inr (11, [.ref rv, .ref d])), (rv, .inr (4, [.ref tp, .ref ln, .ref tb, .ref ct, .ref dp])), (ln, .inr (2, [.ref hd])), (hd, .inl (cN, 256, .inr (.inr (.inr (.inr (va_up hf (pid % 256) (some la))))))), (w, .inr (10, [.ref tp, .ref la, .int q129.2.2.1, .int q129.2.2.2.1, .int q129.2.2.2.2.1, .int 0])), (la, .inr (1, [.int (nI pid), va_rf none, .int (-1), .int 0, .long (-1), .int q129.2.2.2.2.2, va_rf none, va_rf none])), (tp, .inr (0, [.ref a, .int q129.2.1])), (a, .inl (cB, 9400, .inl q129.1))] := hD
  have hz1 : q129.2.1 = nI (T ++ ppL pid 0 (9 + tx t0 + n) 0 ((([] : List Int32) ++ phL (nI (i9 / 8192)) t0 (if fl = 0 then 0 else nI (3 + tx t0 + n))) ++ gnL sd n)).length := e129.2.1
  have hz2 : q129.2.2.2.2.2 = nI (0 + (9 + tx t0 + n + 183) / 184) := by rw [e129.2.2.2.2.2]; congr 1; first | rfl | (simp only [List.length_append, List.length_nil, ph_len, gn_len, tx_9]; omega) | (rw [esL_len (by omega)])
  rw [hz1, hz2] at hP hD
  refine lv_aload_n hx hb d_SS_writePiece_132 rfl (lv_at hl 2 rfl) ?_
  refine va_get (D := D) (ci := 11) (v := .ref rv) (C := R_SS) (T := F_SS) (N := 2) hx hb hts i_SS hown hK hP 0 rfl rfl 0 (by decide) (hts _ wd_198) (fun _ h9 => h9) rfl d_SS_writePiece_133 ?_
  refine va_getN (D := D) (ci := 4) (v := .ref tp) (C := R_Receiver) (T := F_Receiver) (N := 5) hx hb hts i_Receiver hown hK hP 1 rfl rfl 0 (by decide) (hts _ wd_176) (fun _ h9 => h9) rfl d_SS_writePiece_136 ?_
  refine va_getN (D := D) (ci := 0) (v := .int (nI (T ++ ppL pid 0 (9 + tx t0 + n) 0 ((([] : List Int32) ++ phL (nI (i9 / 8192)) t0 (if fl = 0 then 0 else nI (3 + tx t0 + n))) ++ gnL sd n)).length)) (C := R_Row) (T := F_Row) (N := 2) hx hb hts i_Row hown hK hP 6 rfl rfl 1 (by decide) (hts _ wd_109) (fun _ h9 => h9) rfl d_SS_writePiece_139 ?_
  have hP9 := hP.sub (ws' := [(h, .inr (11, [.ref rv, .ref d])), (rv, .inr (4, [.ref tp, .ref ln, .ref tb, .ref ct, .ref dp])), (ln, .inr (2, [.ref hd])), (hd, .inl (cN, 256, .inr (.inr (.inr (.inr (va_up hf (pid % 256) (some la))))))), (tp, .inr (0, [.ref a, .int (nI (T ++ ppL pid 0 (9 + tx t0 + n) 0 ((([] : List Int32) ++ phL (nI (i9 / 8192)) t0 (if fl = 0 then 0 else nI (3 + tx t0 + n))) ++ gnL sd n)).length)])), (a, .inl (cB, 9400, .inl q129.1)), (la, .inr (1, [.int (nI pid), va_rf none, .int (-1), .int 0, .long (-1), .int (nI (0 + (9 + tx t0 + n + 183) / 184)), va_rf none, va_rf none]))]) [0, 1, 2, 3, 6, 7, 5] rfl
  have hD9 := hD.sub (ws' := [(h, .inr (11, [.ref rv, .ref d])), (rv, .inr (4, [.ref tp, .ref ln, .ref tb, .ref ct, .ref dp])), (ln, .inr (2, [.ref hd])), (hd, .inl (cN, 256, .inr (.inr (.inr (.inr (va_up hf (pid % 256) (some la))))))), (tp, .inr (0, [.ref a, .int (nI (T ++ ppL pid 0 (9 + tx t0 + n) 0 ((([] : List Int32) ++ phL (nI (i9 / 8192)) t0 (if fl = 0 then 0 else nI (3 + tx t0 + n))) ++ gnL sd n)).length)])), (a, .inl (cB, 9400, .inl q129.1)), (la, .inr (1, [.int (nI pid), va_rf none, .int (-1), .int 0, .long (-1), .int (nI (0 + (9 + tx t0 + n + 183) / 184)), va_rf none, va_rf none]))]) [0, 1, 2, 3, 6, 7, 5] (by decide) rfl
  have hK9 := hK.sub (tys' := [(cB, .byte), (cN, .object "StreamSplitter$Lane")]) [0, 1] rfl
  refine W.widen (k := 2) (n := 14) (by omega) (by omega) ?_
  exact W.mono MQ.toT (W.iret (v := (nI (T ++ ppL pid 0 (9 + tx t0 + n) 0 ((([] : List Int32) ++ phL (nI (i9 / 8192)) t0 (if fl = 0 then 0 else nI (3 + tx t0 + n))) ++ gnL sd n)).length)) hx hb hr (fun t ht hW => Or.inl ⟨_, (la, q129.1), rfl, ⟨rfl, e129.1⟩, ⟨by rw [ht]; exact hP9, va_K.moved hW.alike hK9, hD9⟩, hS.F ht⟩) hS.2.2 d_SS_writePiece_142)
set_option maxHeartbeats 4000000 in
set_option maxRecDepth 100000 in
theorem c_SS_writeOrder_new (l : Launch) (D : va_G) (hfl : l.stackTraces = false) (B0 : State) (hG : zG B0) (sz : Nat) (cB : ClassId) (h rv d tp tb ct dp : Nat) (a : Nat) (cN : ClassId) (ln hd : Nat) (hf : Nat → Option Nat) (T : List Int32) (f : Nat → Int32) (pid : Nat) (nm how : Int32) (t0 l9 : Int64) (hrc : rc f T) (hpid : pid < 8192) (hh1 : ¬ how < 0) (hh2 : ¬ 63 < how) (ht1 : ¬ t0 < 0) (ht2 : t0 < 8589934592) (hl9 : ¬ l9 < 0) (hno : hf (pid % 256) = none) (hT : T.length + 188 ≤ 9400) : MetT l y_SS_writeOrder [Cond.code y_SS_writeOrder b_SS_writeOrder 9 (some .int)] ({ frames := 5, cells := 2, slots := 14, locals := 117 }) (zMo [.ref h, .int (nI pid), .int nm, .int how, .long t0, .long l9] D [(h, .inr (11, [.ref rv, .ref d])), (rv, .inr (4, [.ref tp, .ref ln, .ref tb, .ref ct, .ref dp])), (ln, .inr (2, [.ref hd])), (hd, .inl (cN, 256, .inr (.inr (.inr (.inr hf))))), (tp, .inr (0, [.ref a, .int (nI T.length)])), (a, .inl (cB, 9400, .inl f))] [(cB, .byte), (cN, .object "StreamSplitter$Lane")] sz B0) (zQi (fun r0 (u : Nat × (Nat → Int32)) => r0 = nI (T ++ ppL pid 0 184 0 (esL (((((([] : List Int32) ++ bsL 0 1) ++ bsL (252 : Int32).toInt64 1) ++ bsL (12288 : Int32).toInt64 2) ++ ohL nm (shQ l9)) ++ obL how t0 (l9 &&& 8589934591)))).length ∧ rc u.2 (T ++ ppL pid 0 184 0 (esL (((((([] : List Int32) ++ bsL 0 1) ++ bsL (252 : Int32).toInt64 1) ++ bsL (12288 : Int32).toInt64 2) ++ ohL nm (shQ l9)) ++ obL how t0 (l9 &&& 8589934591))))) (fun (u : Nat × (Nat → Int32)) t => zW D (va_A [(h, .inr (11, [.ref rv, .ref d])), (rv, .inr (4, [.ref tp, .ref ln, .ref tb, .ref ct, .ref dp])), (ln, .inr (2, [.ref hd])), (hd, .inl (cN, 256, .inr (.inr (.inr (.inr hf))))), (tp, .inr (0, [.ref a, .int (nI T.length)])), (a, .inl (cB, 9400, .inl f))] sz) [(h, .inr (11, [.ref rv, .ref d])), (rv, .inr (4, [.ref tp, .ref ln, .ref tb, .ref ct, .ref dp])), (ln, .inr (2, [.ref hd])), (hd, .inl (cN, 256, .inr (.inr (.inr (.inr (va_up hf (pid % 256) (some u.1))))))), (tp, .inr (0, [.ref a, .int (nI (T ++ ppL pid 0 184 0 (esL (((((([] : List Int32) ++ bsL 0 1) ++ bsL (252 : Int32).toInt64 1) ++ bsL (12288 : Int32).toInt64 2) ++ ohL nm (shQ l9)) ++ obL how t0 (l9 &&& 8589934591)))).length)])), (a, .inl (cB, 9400, .inl u.2)), (u.1, .inr (1, [.int (nI pid), .null, .int (-1), .int 0, .long (-1), .int (nI (0 + (184 + 183) / 184)), .null, .null]))] [(cB, .byte), (cN, .object "StreamSplitter$Lane")] t) (va_A [(h, .inr (11, [.ref rv, .ref d])), (rv, .inr (4, [.ref tp, .ref ln, .ref tb, .ref ct, .ref dp])), (ln, .inr (2, [.ref hd])), (hd, .inl (cN, 256, .inr (.inr (.inr (.inr hf))))), (tp, .inr (0, [.ref a, .int (nI T.length)])), (a, .inl (cB, 9400, .inl f))] sz) (fun _ => False)) 2 14 (va_A [(h, .inr (11, [.ref rv, .ref d])), (rv, .inr (4, [.ref tp, .ref ln, .ref tb, .ref ct, .ref dp])), (ln, .inr (2, [.ref hd])), (hd, .inl (cN, 256, .inr (.inr (.inr (.inr hf))))), (tp, .inr (0, [.ref a, .int (nI T.length)])), (a, .inl (cB, 9400, .inl f))] sz) := by
  refine MetT.ofW (cc := b_SS_writeOrder) (maxL := 9) (ret := (some .int)) (by decide) rfl ?_
  intro p e s m args below meth cd s₁ Bd hml hem hv
  obtain ⟨rfl, hsz, hP, hK, hN, hD0, hO⟩ := hv
  have hx := Bd.exec
  have hb := Bd.bytes
  have hr := Bd.returns
  have hts := hN.use (a := ([.ref h, .int (nI pid), .int nm, .int how, .long t0, .long l9]).toArray)
  have hown : s.vm.findClass R_SS = some m.cls := findClass_of_methodNamed Bd.named
  have hlocks := Bd.notSynchronized
  subst hsz
  have hD := hD0.self (sz := s.heap.size)
  have hAO := z_AO hD0 hO
  clear hD0
  have hA : ∀ q : Nat, s.heap.size ≤ q → va_A [(h, .inr (11, [.ref rv, .ref d])), (rv, .inr (4, [.ref tp, .ref ln, .ref tb, .ref ct, .ref dp])), (ln, .inr (2, [.ref hd])), (hd, .inl (cN, 256, .inr (.inr (.inr (.inr hf))))), (tp, .inr (0, [.ref a, .int (nI T.length)])), (a, .inl (cB, 9400, .inl f))] s.heap.size q := fun q h => Or.inr h
  have hS : va_S (va_A [(h, .inr (11, [.ref rv, .ref d])), (rv, .inr (4, [.ref tp, .ref ln, .ref tb, .ref ct, .ref dp])), (ln, .inr (2, [.ref hd])), (hd, .inl (cN, 256, .inr (.inr (.inr (.inr hf))))), (tp, .inr (0, [.ref a, .int (nI T.length)])), (a, .inl (cB, 9400, .inl f))] s.heap.size) s.heap s.heap [] := va_S.rf
  generalize hAe : va_A [(h, .inr (11, [.ref rv, .ref d])), (rv, .inr (4, [.ref tp, .ref ln, .ref tb, .ref ct, .ref dp])), (ln, .inr (2, [.ref hd])), (hd, .inl (cN, 256, .inr (.inr (.inr (.inr hf))))), (tp, .inr (0, [.ref a, .int (nI T.length)])), (a, .inl (cB, 9400, .inl f))] s.heap.size = A at hD hA hS hAO ⊢
  have hP : va_P D classes [(h, .inr (11, [.ref rv, .ref d])), (rv, .inr (4, [.ref tp, .ref ln, .ref tb, .ref ct, .ref dp])), (ln, .inr (2, [.ref hd])), (hd, .inl (cN, 256, .inr (.inr (.inr (.inr hf))))), (tp, .inr (0, [.ref a, .int (nI T.length)])), (a, .inl (cB, 9400, .inl f))] s.heap := hP
  have hl := lv_entry ([.ref h, .int (nI pid), .int nm, .int how, .long t0, .long l9]) (n := 9) (Nat.le_of_ble_eq_true rfl)
  rw [lg_entry_eq]
  generalize (lg_sl ([.ref h, .int (nI pid), .int nm, .int how, .long t0, .long l9]) ++ List.replicate (9 - (lg_sl ([.ref h, .int (nI pid), .int nm, .int how, .long t0, .long l9])).length) Slot.unset).toArray = ls at hl ⊢
  have hl : lv_has ls 9 [(0, .ref h), (1, .int (nI pid)), (2, .int nm), (3, .int how), (4, .long t0), (6, .long l9)] := hl
  have htot : 184 ≤ 4100 := by omega
  have hw0 : (0 : Nat) < 2 ^ 29 := by omega
  have hn94 : T.length ≤ 9400 := by omega
  refine lv_iload_n hx hb d_SS_writeOrder_0 rfl (lv_at hl 1 rfl) ?_
  have hPc := hP.sub (ws' := []) [] rfl
  have hKc := hK.sub (tys' := []) [] rfl
  refine z_ci (va_runS (As := [.int (nI pid)]) (rest := []) ⟨hx, hb, hml, hown, hts⟩ (c_SS_isNoPid l D (nI pid) ) (z_cS hN wd_883 wd_59 wd_881 hd_SS_isNoPid rfl rfl ⟨Nat.le_of_ble_eq_true rfl, Nat.le_of_ble_eq_true rfl⟩ wd_882) (z_preS hPc hKc hN) rfl rfl hl.1 rfl (lv_room (Nat.le_of_ble_eq_true rfl)) d_SS_writeOrder_1 ⟨Nat.le_of_ble_eq_true rfl, Nat.le_of_ble_eq_true rfl⟩) (fun r1 e1 => ?_)
  subst e1
  refine lv_if_ne (tgt := 40) hx hb d_SS_writeOrder_4 rfl (fun h9 => absurd (if_neg (fun z => z.elim (nI_pos (by omega)) (Int32.not_lt.mpr (nI_le (a := pid) (b := 8191) (by omega) (by decide))))) h9) (fun h4 => ?_)
  refine lv_iload_n hx hb d_SS_writeOrder_7 rfl (lv_at hl 3 rfl) ?_
  refine lv_if_lt (tgt := 40) hx hb d_SS_writeOrder_8 rfl (fun h9 => absurd h9 hh1) (fun h8 => ?_)
  refine lv_iload_n hx hb d_SS_writeOrder_11 rfl (lv_at hl 3 rfl) ?_
  refine lv_bipush (v := 63) hx hb d_SS_writeOrder_12 (by decide) ?_
  refine lv_icmp_gt (tgt := 40) hx hb d_SS_writeOrder_14 rfl (fun h9 => absurd h9 hh2) (fun h14 => ?_)
  refine lv_lload hx hb d_SS_writeOrder_17 (lv_at hl 4 rfl) ?_
  refine lv_lconst (v := 0) hx hb d_SS_writeOrder_19 (by decide) ?_
  refine W.lcmp hx hb d_SS_writeOrder_20 ?_
  refine lv_if_lt (tgt := 40) hx hb d_SS_writeOrder_21 rfl (fun h9 => absurd ((lg_cmp_lt _ _).mp h9) ht1) (fun h21 => ?_)
  refine lv_lload hx hb d_SS_writeOrder_24 (lv_at hl 4 rfl) ?_
  refine lv_ldc2 hx hb hown (hts _ wd_1038) d_SS_writeOrder_26 ?_
  refine W.lcmp hx hb d_SS_writeOrder_29 ?_
  refine lv_if_ge (tgt := 40) hx hb d_SS_writeOrder_30 rfl (fun h9 => absurd ht2 (Int64.not_lt.mpr ((lg_cmp_ge _ _).mp h9))) (fun h30 => ?_)
  refine lv_lload hx hb d_SS_writeOrder_33 (lv_at hl 5 rfl) ?_
  refine lv_lconst (v := 0) hx hb d_SS_writeOrder_35 (by decide) ?_
  refine W.lcmp hx hb d_SS_writeOrder_36 ?_
  refine lv_if_ge (tgt := 51) hx hb d_SS_writeOrder_37 rfl (fun h37 => ?_) (fun h9 => absurd ((lg_cmp_ge _ _).mpr (Int64.not_lt.mp hl9)) h9)
  refine lv_aload_n hx hb d_SS_writeOrder_51 rfl (lv_at hl 0 rfl) ?_
  refine lv_iconst (v := 1) hx hb d_SS_writeOrder_52 (by decide) ?_
  have hPc := hP.sub (ws' := [(h, .inr (11, [.ref rv, .ref d])), (rv, .inr (4, [.ref tp, .ref ln, .ref tb, .ref ct, .ref dp])), (tp, .inr (0, [.ref a, .int (nI T.length)])), (a, .inl (cB, 9400, .inl f))]) [0, 1, 4, 5] rfl
  have hKc := hK.sub (tys' := [(cB, .byte)]) [0] rfl
  refine z_ci (va_runV (As := [.int (nI 1)]) (rest := []) ⟨hx, hb, hml, hown, hts⟩ (c_SS_hasNoRoom l D cB h d rv ln tb ct dp tp a T.length f 1 (by omega) (by omega)) (z_cV hN wd_940 wd_59 wd_937 hd_SS_hasNoRoom rfl rfl ⟨Nat.le_of_ble_eq_true rfl, Nat.le_of_ble_eq_true rfl⟩ wd_939 wd_20) (z_preV (va_recv (ci := 11) (q0 := 0) hK hP rfl rfl) hPc hKc hN) rfl rfl hl.1 rfl (lv_room (Nat.le_of_ble_eq_true rfl)) d_SS_writeOrder_53 ⟨Nat.le_of_ble_eq_true rfl, Nat.le_of_ble_eq_true rfl⟩) (fun r53 e53 => ?_)
  subst e53
  refine lv_if_eq (tgt := 61) hx hb d_SS_writeOrder_56 rfl (fun h56 => ?_) (fun h9 => absurd (rm_0c (by omega)) h9)
  refine lv_aload_n hx hb d_SS_writeOrder_61 rfl (lv_at hl 0 rfl) ?_
  refine lv_iload_n hx hb d_SS_writeOrder_62 rfl (lv_at hl 1 rfl) ?_
  refine lv_sipush (v := 184) hx hb d_SS_writeOrder_63 (by decide) ?_
  have hPc := hP.sub (ws' := [(h, .inr (11, [.ref rv, .ref d])), (rv, .inr (4, [.ref tp, .ref ln, .ref tb, .ref ct, .ref dp])), (ln, .inr (2, [.ref hd])), (hd, .inl (cN, 256, .inr (.inr (.inr (.inr hf)))))]) [0, 1, 2, 3] rfl
  have hKc := hK.sub (tys' := [(cN, .object "StreamSplitter$Lane")]) [1] rfl
  have hDc := hD.sub (ws' := [(h, .inr (11, [.ref rv, .ref d])), (rv, .inr (4, [.ref tp, .ref ln, .ref tb, .ref ct, .ref dp])), (ln, .inr (2, [.ref hd])), (hd, .inl (cN, 256, .inr (.inr (.inr (.inr hf)))))]) [0, 1, 2, 3] (by decide) rfl
  have hFc := va_free (wc := [(h, .inr (11, [.ref rv, .ref d])), (rv, .inr (4, [.ref tp, .ref ln, .ref tb, .ref ct, .ref dp])), (ln, .inr (2, [.ref hd])), (hd, .inl (cN, 256, .inr (.inr (.inr (.inr hf)))))]) hD hS hA [0, 1, 2, 3] rfl
  refine va_callr (va_runV (As := [.int (nI pid), .int (nI 184)]) (rest := []) ⟨hx, hb, hml, hown, hts⟩ (c_SS_writerTo0 l D s.heap.size h rv d tp tb ct dp cN ln hd hf pid (nI 184) hpid hno) (z_cV hN wd_944 wd_59 wd_941 hd_SS_writerTo rfl rfl ⟨Nat.le_of_ble_eq_true rfl, Nat.le_of_ble_eq_true rfl⟩ wd_943 wd_21) (z_preVm (va_recv (ci := 11) (q0 := 0) hK hP rfl rfl) hPc hKc hN hDc) rfl rfl hl.1 rfl (lv_room (Nat.le_of_ble_eq_true rfl)) d_SS_writeOrder_66 ⟨Nat.le_of_ble_eq_true rfl, Nat.le_of_ble_eq_true rfl⟩) hS (fun q _ h => hFc q h) hFc (fun la w t H locs ht hvm e66 hB hz1 hk1 hS => ?_)
  obtain ⟨hP1, hK1, hD1⟩ := hB
  rw [ht] at hP1
  obtain ⟨hP, hD⟩ := va_join (wr := [(tp, .inr (0, [.ref a, .int (nI T.length)])), (a, .inl (cB, 9400, .inl f))]) (w1 := [(h, .inr (11, [.ref rv, .ref d])), (rv, .inr (4, [.ref tp, .ref ln, .ref tb, .ref ct, .ref dp])), (ln, .inr (2, [.ref hd])), (hd, .inl (cN, 256, .inr (.inr (.inr (.inr (va_up hf (pid % 256) (some la))))))), (la, .inr (1, [.int (nI pid), .null, .int (-1), .int 0, .long (-1), .int 0, .null, .null])), (w, .inr (10, [.ref tp, .ref la, .int (nI 184), .int 0, .int 0, .int 0]))]) hP hD [0, 1, 2, 3] [4, 5] rfl rfl (by decide) (by decide) hk1 hFc hP1 hD1
  clear hk1 hP1 hD1 hFc hPc hDc hz1
  have hP : va_P D classes [(tp, .inr (0, [.ref a, .int (nI T.length)])), (a, .inl (cB, 9400, .inl f)), (h, .inr (11, [.ref rv, .ref d])), (rv, .inr (4, [.ref tp, .ref ln, .ref tb, .ref ct, .ref dp])), (ln, .inr (2, [.ref hd])), (hd, .inl (cN, 256, .inr (.inr (.inr (.inr (va_up hf (pid % 256) (some la))))))), (la, .inr (1, [.int (nI pid), .null, .int (-1), .int 0, .long (-1), .int 0, .null, .null])), (w, .inr (10, [.ref tp, .ref la, .int (nI 184), .int 0, .int 0, .int 0]))] H := hP
  have hD : va_D A [(tp, .inr (0, [.ref a, .int (nI T.length)])), (a, .inl (cB, 9400, .inl f)), (h, .inr (11, [.ref rv, .ref d])), (rv, .inr (4, [.ref tp, .ref ln, .ref tb, .ref ct, .ref dp])), (ln, .inr (2, [.ref hd])), (hd, .inl (cN, 256, .inr (.inr (.inr (.inr (va_up hf (pid % 256) (some la))))))), (la, .inr (1, [.int (nI pid), .null, .int (-1), .int 0, .long (-1), .int 0, .null, .null])), (w, .inr (10, [.ref tp, .ref la, .int (nI 184), .int 0, .int 0, .int 0]))] := hD
  obtain ⟨q, hqe⟩ : ∃ q : WQ, q = (f, nI T.length, nI 184, 0, 0, nI 0) := ⟨_, rfl⟩
  have hws : WS pid 0 184 T [] q := by rw [hqe]; exact ws_new hrc
  have hP : va_P D classes [(tp, .inr (0, [.ref a, .int q.2.1])), (a, .inl (cB, 9400, .inl q.1)), (h, .inr (11, [.ref rv, .ref d])), (rv, .inr (4, [.ref tp, .ref ln, .ref tb, .ref ct, .ref dp])), (ln, .inr (2, [.ref hd])), (hd, .inl (cN, 256, .inr (.inr (.inr (.inr (va_up hf (pid % 256) (some la))))))), (la, .inr (1, [.int (nI pid), .null, .int (-1), .int 0, .long (-1), .int q.2.2.2.2.2, .null, .null])), (w, .inr (10, [.ref tp, .ref la, .int q.2.2.1, .int q.2.2.2.1, .int q.2.2.2.2.1, .int 0]))] H := by rw [hqe]; exact hP
  have hD : va_D A [(tp, .inr (0, [.ref a, .int q.2.1])), (a, .inl (cB, 9400, .inl q.1)), (h, .inr (11, [.ref rv, .ref d])), (rv, .inr (4, [.ref tp, .ref ln, .ref tb, .ref ct, .ref dp])), (ln, .inr (2, [.ref hd])), (hd, .inl (cN, 256, .inr (.inr (.inr (.inr (va_up hf (pid % 256) (some la))))))), (la, .inr (1, [.int (nI pid), .null, .int (-1), .int 0, .long (-1), .int q.2.2.2.2.2, .null, .null])), (w, .inr (10, [.ref tp, .ref la, .int q.2.2.1, .int q.2.2.2.1, .int q.2.2.2.2.1, .int 0]))] := by rw [hqe]; exact hD
  clear hqe
  refine lv_astore (lv' := [(8, .ref w), (0, .ref h), (1, .int (nI pid)), (2, .int nm), (3, .int how), (4, .long t0), (6, .long l9)]) hx hb d_SS_writeOrder_69 hl (by decide) rfl (fun ls hl => ?_)
  refine lv_aload hx hb d_SS_writeOrder_71 (lv_at hl 0 rfl) ?_
  refine lv_sipush (v := 252) hx hb d_SS_writeOrder_73 (by decide) ?_
  refine lv_sipush (v := 12288) hx hb d_SS_writeOrder_76 (by decide) ?_
  have hPc := hP.sub (ws' := [(w, .inr (10, [.ref tp, .ref la, .int q.2.2.1, .int q.2.2.2.1, .int q.2.2.2.2.1, .int 0])), (la, .inr (1, [.int (nI pid), va_rf none, .int (-1), .int 0, .long (-1), .int q.2.2.2.2.2, va_rf none, va_rf none])), (tp, .inr (0, [.ref a, .int q.2.1])), (a, .inl (cB, 9400, .inl q.1))]) [7, 6, 0, 1] rfl
  have hKc := hK.sub (tys' := [(cB, .byte)]) [0] rfl
  have hDc := hD.sub (ws' := [(w, .inr (10, [.ref tp, .ref la, .int q.2.2.1, .int q.2.2.2.1, .int q.2.2.2.2.1, .int 0])), (la, .inr (1, [.int (nI pid), va_rf none, .int (-1), .int 0, .long (-1), .int q.2.2.2.2.2, va_rf none, va_rf none])), (tp, .inr (0, [.ref a, .int q.2.1])), (a, .inl (cB, 9400, .inl q.1))]) [7, 6, 0, 1] (by decide) rfl
  have hFc := va_free (wc := [(w, .inr (10, [.ref tp, .ref la, .int q.2.2.1, .int q.2.2.2.1, .int q.2.2.2.2.1, .int 0])), (la, .inr (1, [.int (nI pid), va_rf none, .int (-1), .int 0, .long (-1), .int q.2.2.2.2.2, va_rf none, va_rf none])), (tp, .inr (0, [.ref a, .int q.2.1])), (a, .inl (cB, 9400, .inl q.1))]) hD hS hA [7, 6, 0, 1] rfl
  refine va_callv (va_runV (As := [.int 252, .int 12288]) (rest := []) ⟨hx, hb, hml, hown, hts⟩ (c_Writer_beginSection l D H.size cB w tp a q 0 la none none none (-1) 0 (-1) pid 0 184 T ([] : List Int32) 252 12288 hws htot hT hpid hw0 (by (try simp only [List.length_append, bs_len, List.length_nil, ph_len]); omega)) (z_cV hN wd_984 wd_85 wd_1061 hd_Writer_beginSection rfl rfl ⟨Nat.le_of_ble_eq_true rfl, Nat.le_of_ble_eq_true rfl⟩ wd_982 wd_983) (z_preVm (va_recv (ci := 10) (q0 := 7) hK hP rfl rfl) hPc hKc hN hDc) rfl rfl hl.1 rfl (lv_room (Nat.le_of_ble_eq_true rfl)) d_SS_writeOrder_79 ⟨Nat.le_of_ble_eq_true rfl, Nat.le_of_ble_eq_true rfl⟩) hS (fun q _ h => hFc q h) hFc (fun q79 t H locs ht hvm e79 hB hz1 hk1 hS => ?_)
  obtain ⟨hP1, hK1, hD1⟩ := hB
  rw [ht] at hP1
  obtain ⟨hP, hD⟩ := va_join (wr := [(h, .inr (11, [.ref rv, .ref d])), (rv, .inr (4, [.ref tp, .ref ln, .ref tb, .ref ct, .ref dp])), (ln, .inr (2, [.ref hd])), (hd, .inl (cN, 256, .inr (.inr (.inr (.inr (va_up hf (pid % 256) (some la)))))))]) (w1 := [(w, .inr (10, [.ref tp, .ref la, .int q79.2.2.1, .int q79.2.2.2.1, .int q79.2.2.2.2.1, .int (nI (T ++ ppL pid 0 184 0 (([] : List Int32) ++ bsL 0 1)).length)])), (la, .inr (1, [.int (nI pid), va_rf none, .int (-1), .int 0, .long (-1), .int q79.2.2.2.2.2, va_rf none, va_rf none])), (tp, .inr (0, [.ref a, .int q79.2.1])), (a, .inl (cB, 9400, .inl q79.1))]) hP hD [7, 6, 0, 1] [2, 3, 4, 5] rfl rfl (by decide) (by decide) hk1 hFc hP1 hD1
  clear hk1 hP1 hD1 hFc hPc hDc hz1
  have hP : va_P D classes [(h, .inr (11, [.ref rv, .ref d])), (rv, .inr (4, [.ref tp, .ref ln, .ref tb, .ref ct, .ref dp])), (ln, .inr (2, [.ref hd])), (hd, .inl (cN, 256, .inr (.inr (.inr (.inr (va_up hf (pid % 256) (some la))))))), (w, .inr (10, [.ref tp, .ref la, .int q79.2.2.1, .int q79.2.2.2.1, .int q79.2.2.2.2.1, .int (nI (T ++ ppL pid 0 184 0 (([] : List Int32) ++ bsL 0 1)).length)])), (la, .inr (1, [.int (nI pid), va_rf none, .int (-1), .int 0, .long (-1), .int q79.2.2.2.2.2, va_rf none, va_rf none])), (tp, .inr (0, [.ref a, .int q79.2.1])), (a, .inl (cB, 9400, .inl q79.1))] H := hP
  have hD : va_D A [(h, .inr (11, [.ref rv, .ref d])), (rv, .inr (4, [.ref tp, .ref ln, .ref tb, .ref ct, .ref dp])), (ln, .inr (2, [.ref hd])), (hd, .inl (cN, 256, .inr (.inr (.inr (.inr (va_up hf (pid % 256) (some la))))))), (w, .inr (10, [.ref tp, .ref la, .int q79.2.2.1, .int q79.2.2.2.1, .int q79.2.2.2.2.1, .int (nI (T ++ ppL pid 0 184 0 (([] : List Int32) ++ bsL 0 1)).length)])), (la, .inr (1, [.int (nI pid), va_rf none, .int (-1), .int 0, .long (-1), .int q79.2.2.2.2.2, va_rf none, va_rf none])), (tp, .inr (0, [.ref a, .int q79.2.1])), (a, .inl (cB, 9400, .inl q79.1))] := hD
  have hz3 : (T ++ ppL pid 0 184 0 (([] : List Int32) ++ bsL 0 1)).length = T.length + 5 := by rw [tl_184 (by simp [bs_len]) (by simp [bs_len])]; simp [bs_len]
  rw [hz3] at hP hD
  refine lv_aload hx hb d_SS_writeOrder_82 (lv_at hl 0 rfl) ?_
  refine lv_iload_n hx hb d_SS_writeOrder_84 rfl (lv_at hl 3 rfl) ?_
  refine lv_lload hx hb d_SS_writeOrder_85 (lv_at hl 6 rfl) ?_
  refine lv_bipush (v := 33) hx hb d_SS_writeOrder_87 (by decide) ?_
  refine lv_lushr (v := (l9.toUInt64 >>> ((33 : Int32).toInt64.toUInt64 &&& Int64.toUInt64 63)).toInt64) hx hb d_SS_writeOrder_89 rfl ?_
  refine z_topl (w := shQ l9) rfl ?_
  have hPc := hP.sub (ws' := [(w, .inr (10, [.ref tp, .ref la, .int q79.2.2.1, .int q79.2.2.2.1, .int q79.2.2.2.2.1, .int (nI (T.length + 5))])), (la, .inr (1, [.int (nI pid), va_rf none, .int (-1), .int 0, .long (-1), .int q79.2.2.2.2.2, va_rf none, va_rf none])), (tp, .inr (0, [.ref a, .int q79.2.1])), (a, .inl (cB, 9400, .inl q79.1))]) [4, 5, 6, 7] rfl
  have hKc := hK.sub (tys' := [(cB, .byte)]) [0] rfl
  have hDc := hD.sub (ws' := [(w, .inr (10, [.ref tp, .ref la, .int q79.2.2.1, .int q79.2.2.2.1, .int q79.2.2.2.2.1, .int (nI (T.length + 5))])), (la, .inr (1, [.int (nI pid), va_rf none, .int (-1), .int 0, .long (-1), .int q79.2.2.2.2.2, va_rf none, va_rf none])), (tp, .inr (0, [.ref a, .int q79.2.1])), (a, .inl (cB, 9400, .inl q79.1))]) [4, 5, 6, 7] (by decide) rfl
  have hFc := va_free (wc := [(w, .inr (10, [.ref tp, .ref la, .int q79.2.2.1, .int q79.2.2.2.1, .int q79.2.2.2.2.1, .int (nI (T.length + 5))])), (la, .inr (1, [.int (nI pid), va_rf none, .int (-1), .int 0, .long (-1), .int q79.2.2.2.2.2, va_rf none, va_rf none])), (tp, .inr (0, [.ref a, .int q79.2.1])), (a, .inl (cB, 9400, .inl q79.1))]) hD hS hA [4, 5, 6, 7] rfl
  refine va_callv (va_runV (As := [.int nm, .long (shQ l9)]) (rest := []) ⟨hx, hb, hml, hown, hts⟩ (c_Writer_putOrderHead l D H.size cB w tp a q79 (nI (T.length + 5)) la none none none (-1) 0 (-1) pid 0 184 T (((([] : List Int32) ++ bsL 0 1) ++ bsL (252 : Int32).toInt64 1) ++ bsL (12288 : Int32).toInt64 2) nm (shQ l9) e79 htot hT hpid hw0 (by (try simp only [List.length_append, bs_len, List.length_nil, ph_len]); omega)) (z_cV hN wd_1065 wd_85 wd_1062 hd_Writer_putOrderHead rfl rfl ⟨Nat.le_of_ble_eq_true rfl, Nat.le_of_ble_eq_true rfl⟩ wd_1063 wd_1064) (z_preVm (va_recv (ci := 10) (q0 := 4) hK hP rfl rfl) hPc hKc hN hDc) rfl rfl hl.1 rfl (lv_room (Nat.le_of_ble_eq_true rfl)) d_SS_writeOrder_90 ⟨Nat.le_of_ble_eq_true rfl, Nat.le_of_ble_eq_true rfl⟩) hS (fun q _ h => hFc q h) hFc (fun q90 t H locs ht hvm e90 hB hz1 hk1 hS => ?_)
  obtain ⟨hP1, hK1, hD1⟩ := hB
  rw [ht] at hP1
  obtain ⟨hP, hD⟩ := va_join (wr := [(h, .inr (11, [.ref rv, .ref d])), (rv, .inr (4, [.ref tp, .ref ln, .ref tb, .ref ct, .ref dp])), (ln, .inr (2, [.ref hd])), (hd, .inl (cN, 256, .inr (.inr (.inr (.inr (va_up hf (pid % 256) (some la)))))))]) (w1 := [(w, .inr (10, [.ref tp, .ref la, .int q90.2.2.1, .int q90.2.2.2.1, .int q90.2.2.2.2.1, .int (nI (T.length + 5))])), (la, .inr (1, [.int (nI pid), va_rf none, .int (-1), .int 0, .long (-1), .int q90.2.2.2.2.2, va_rf none, va_rf none])), (tp, .inr (0, [.ref a, .int q90.2.1])), (a, .inl (cB, 9400, .inl q90.1))]) hP hD [4, 5, 6, 7] [0, 1, 2, 3] rfl rfl (by decide) (by decide) hk1 hFc hP1 hD1
  clear hk1 hP1 hD1 hFc hPc hDc hz1
  have hP : va_P D classes [(h, .inr (11, [.ref rv, .ref d])), (rv, .inr (4, [.ref tp, .ref ln, .ref tb, .ref ct, .ref dp])), (ln, .inr (2, [.ref hd])), (hd, .inl (cN, 256, .inr (.inr (.inr (.inr (va_up hf (pid % 256) (some la))))))), (w, .inr (10, [.ref tp, .ref la, .int q90.2.2.1, .int q90.2.2.2.1, .int q90.2.2.2.2.1, .int (nI (T.length + 5))])), (la, .inr (1, [.int (nI pid), va_rf none, .int (-1), .int 0, .long (-1), .int q90.2.2.2.2.2, va_rf none, va_rf none])), (tp, .inr (0, [.ref a, .int q90.2.1])), (a, .inl (cB, 9400, .inl q90.1))] H := hP
  have hD : va_D A [(h, .inr (11, [.ref rv, .ref d])), (rv, .inr (4, [.ref tp, .ref ln, .ref tb, .ref ct, .ref dp])), (ln, .inr (2, [.ref hd])), (hd, .inl (cN, 256, .inr (.inr (.inr (.inr (va_up hf (pid % 256) (some la))))))), (w, .inr (10, [.ref tp, .ref la, .int q90.2.2.1, .int q90.2.2.2.1, .int q90.2.2.2.2.1, .int (nI (T.length + 5))])), (la, .inr (1, [.int (nI pid), va_rf none, .int (-1), .int 0, .long (-1), .int q90.2.2.2.2.2, va_rf none, va_rf none])), (tp, .inr (0, [.ref a, .int q90.2.1])), (a, .inl (cB, 9400, .inl q90.1))] := hD
  refine lv_aload hx hb d_SS_writeOrder_93 (lv_at hl 0 rfl) ?_
  refine lv_iload_n hx hb d_SS_writeOrder_95 rfl (lv_at hl 4 rfl) ?_
  refine lv_lload hx hb d_SS_writeOrder_96 (lv_at hl 5 rfl) ?_
  refine lv_lload hx hb d_SS_writeOrder_98 (lv_at hl 6 rfl) ?_
  refine lv_ldc2 hx hb hown (hts _ wd_1074) d_SS_writeOrder_100 ?_
  refine lv_land hx hb d_SS_writeOrder_103 ?_
  have hPc := hP.sub (ws' := [(w, .inr (10, [.ref tp, .ref la, .int q90.2.2.1, .int q90.2.2.2.1, .int q90.2.2.2.2.1, .int (nI (T.length + 5))])), (la, .inr (1, [.int (nI pid), va_rf none, .int (-1), .int 0, .long (-1), .int q90.2.2.2.2.2, va_rf none, va_rf none])), (tp, .inr (0, [.ref a, .int q90.2.1])), (a, .inl (cB, 9400, .inl q90.1))]) [4, 5, 6, 7] rfl
  have hKc := hK.sub (tys' := [(cB, .byte)]) [0] rfl
  have hDc := hD.sub (ws' := [(w, .inr (10, [.ref tp, .ref la, .int q90.2.2.1, .int q90.2.2.2.1, .int q90.2.2.2.2.1, .int (nI (T.length + 5))])), (la, .inr (1, [.int (nI pid), va_rf none, .int (-1), .int 0, .long (-1), .int q90.2.2.2.2.2, va_rf none, va_rf none])), (tp, .inr (0, [.ref a, .int q90.2.1])), (a, .inl (cB, 9400, .inl q90.1))]) [4, 5, 6, 7] (by decide) rfl
  have hFc := va_free (wc := [(w, .inr (10, [.ref tp, .ref la, .int q90.2.2.1, .int q90.2.2.2.1, .int q90.2.2.2.2.1, .int (nI (T.length + 5))])), (la, .inr (1, [.int (nI pid), va_rf none, .int (-1), .int 0, .long (-1), .int q90.2.2.2.2.2, va_rf none, va_rf none])), (tp, .inr (0, [.ref a, .int q90.2.1])), (a, .inl (cB, 9400, .inl q90.1))]) hD hS hA [4, 5, 6, 7] rfl
  refine va_callv (va_runV (As := [.int how, .long t0, .long (l9 &&& 8589934591)]) (rest := []) ⟨hx, hb, hml, hown, hts⟩ (c_Writer_putOrderBody l D H.size cB w tp a q90 (nI (T.length + 5)) la none none none (-1) 0 (-1) pid 0 184 T ((((([] : List Int32) ++ bsL 0 1) ++ bsL (252 : Int32).toInt64 1) ++ bsL (12288 : Int32).toInt64 2) ++ ohL nm (shQ l9)) how t0 (l9 &&& 8589934591) e90 htot hT hpid hw0 (by simp only [List.length_append, bs_len, List.length_nil, oh_len]; omega)) (z_cV hN wd_1078 wd_85 wd_1075 hd_Writer_putOrderBody rfl rfl ⟨Nat.le_of_ble_eq_true rfl, Nat.le_of_ble_eq_true rfl⟩ wd_1076 wd_1077) (z_preVm (va_recv (ci := 10) (q0 := 4) hK hP rfl rfl) hPc hKc hN hDc) rfl rfl hl.1 rfl (lv_room (Nat.le_of_ble_eq_true rfl)) d_SS_writeOrder_104 ⟨Nat.le_of_ble_eq_true rfl, Nat.le_of_ble_eq_true rfl⟩) hS (fun q _ h => hFc q h) hFc (fun q104 t H locs ht hvm e104 hB hz1 hk1 hS => ?_)
  obtain ⟨hP1, hK1, hD1⟩ := hB
  rw [ht] at hP1
  obtain ⟨hP, hD⟩ := va_join (wr := [(h, .inr (11, [.ref rv, .ref d])), (rv, .inr (4, [.ref tp, .ref ln, .ref tb, .ref ct, .ref dp])), (ln, .inr (2, [.ref hd])), (hd, .inl (cN, 256, .inr (.inr (.inr (.inr (va_up hf (pid % 256) (some la)))))))]) (w1 := [(w, .inr (10, [.ref tp, .ref la, .int q104.2.2.1, .int q104.2.2.2.1, .int q104.2.2.2.2.1, .int (nI (T.length + 5))])), (la, .inr (1, [.int (nI pid), va_rf none, .int (-1), .int 0, .long (-1), .int q104.2.2.2.2.2, va_rf none, va_rf none])), (tp, .inr (0, [.ref a, .int q104.2.1])), (a, .inl (cB, 9400, .inl q104.1))]) hP hD [4, 5, 6, 7] [0, 1, 2, 3] rfl rfl (by decide) (by decide) hk1 hFc hP1 hD1
  clear hk1 hP1 hD1 hFc hPc hDc hz1
  have hP : va_P D classes [(h, .inr (11, [.ref rv, .ref d])), (rv, .inr (4, [.ref tp, .ref ln, .ref tb, .ref ct, .ref dp])), (ln, .inr (2, [.ref hd])), (hd, .inl (cN, 256, .inr (.inr (.inr (.inr (va_up hf (pid % 256) (some la))))))), (w, .inr (10, [.ref tp, .ref la, .int q104.2.2.1, .int q104.2.2.2.1, .int q104.2.2.2.2.1, .int (nI (T.length + 5))])), (la, .inr (1, [.int (nI pid), va_rf none, .int (-1), .int 0, .long (-1), .int q104.2.2.2.2.2, va_rf none, va_rf none])), (tp, .inr (0, [.ref a, .int q104.2.1])), (a, .inl (cB, 9400, .inl q104.1))] H := hP
  have hD : va_D A [(h, .inr (11, [.ref rv, .ref d])), (rv, .inr (4, [.ref tp, .ref ln, .ref tb, .ref ct, .ref dp])), (ln, .inr (2, [.ref hd])), (hd, .inl (cN, 256, .inr (.inr (.inr (.inr (va_up hf (pid % 256) (some la))))))), (w, .inr (10, [.ref tp, .ref la, .int q104.2.2.1, .int q104.2.2.2.1, .int q104.2.2.2.2.1, .int (nI (T.length + 5))])), (la, .inr (1, [.int (nI pid), va_rf none, .int (-1), .int 0, .long (-1), .int q104.2.2.2.2.2, va_rf none, va_rf none])), (tp, .inr (0, [.ref a, .int q104.2.1])), (a, .inl (cB, 9400, .inl q104.1))] := hD
  refine lv_aload hx hb d_SS_writeOrder_107 (lv_at hl 0 rfl) ?_
  have hPc := hP.sub (ws' := [(w, .inr (10, [.ref tp, .ref la, .int q104.2.2.1, .int q104.2.2.2.1, .int q104.2.2.2.2.1, .int (nI (T.length + 5))])), (la, .inr (1, [.int (nI pid), va_rf none, .int (-1), .int 0, .long (-1), .int q104.2.2.2.2.2, va_rf none, va_rf none])), (tp, .inr (0, [.ref a, .int q104.2.1])), (a, .inl (cB, 9400, .inl q104.1))]) [4, 5, 6, 7] rfl
  have hKc := hK.sub (tys' := [(cB, .byte)]) [0] rfl
  have hDc := hD.sub (ws' := [(w, .inr (10, [.ref tp, .ref la, .int q104.2.2.1, .int q104.2.2.2.1, .int q104.2.2.2.2.1, .int (nI (T.length + 5))])), (la, .inr (1, [.int (nI pid), va_rf none, .int (-1), .int 0, .long (-1), .int q104.2.2.2.2.2, va_rf none, va_rf none])), (tp, .inr (0, [.ref a, .int q104.2.1])), (a, .inl (cB, 9400, .inl q104.1))]) [4, 5, 6, 7] (by decide) rfl
  have hFc := va_free (wc := [(w, .inr (10, [.ref tp, .ref la, .int q104.2.2.1, .int q104.2.2.2.1, .int q104.2.2.2.2.1, .int (nI (T.length + 5))])), (la, .inr (1, [.int (nI pid), va_rf none, .int (-1), .int 0, .long (-1), .int q104.2.2.2.2.2, va_rf none, va_rf none])), (tp, .inr (0, [.ref a, .int q104.2.1])), (a, .inl (cB, 9400, .inl q104.1))]) hD hS hA [4, 5, 6, 7] rfl
  refine va_callv (va_runV (As := []) (rest := []) ⟨hx, hb, hml, hown, hts⟩ (c_Writer_endSection l D H.size cB w tp a q104 la none none none (-1) 0 (-1) pid 0 T (((((([] : List Int32) ++ bsL 0 1) ++ bsL (252 : Int32).toInt64 1) ++ bsL (12288 : Int32).toInt64 2) ++ ohL nm (shQ l9)) ++ obL how t0 (l9 &&& 8589934591)) e104 hT hpid (by omega) (by simp only [List.length_append, bs_len, List.length_nil, oh_len]; omega) (by have := ob_le how t0 (l9 &&& 8589934591); simp only [List.length_append, bs_len, List.length_nil, oh_len]; omega)) (z_cV hN wd_1006 wd_85 wd_1080 hd_Writer_endSection rfl rfl ⟨Nat.le_of_ble_eq_true rfl, Nat.le_of_ble_eq_true rfl⟩ wd_1004 wd_1005) (z_preVm (va_recv (ci := 10) (q0 := 4) hK hP rfl rfl) hPc hKc hN hDc) rfl rfl hl.1 rfl (lv_room (Nat.le_of_ble_eq_true rfl)) d_SS_writeOrder_109 ⟨Nat.le_of_ble_eq_true rfl, Nat.le_of_ble_eq_true rfl⟩) hS (fun q _ h => hFc q h) hFc (fun q109 t H locs ht hvm e109 hB hz1 hk1 hS => ?_)
  obtain ⟨hP1, hK1, hD1⟩ := hB
  rw [ht] at hP1
  obtain ⟨hP, hD⟩ := va_join (wr := [(h, .inr (11, [.ref rv, .ref d])), (rv, .inr (4, [.ref tp, .ref ln, .ref tb, .ref ct, .ref dp])), (ln, .inr (2, [.ref hd])), (hd, .inl (cN, 256, .inr (.inr (.inr (.inr (va_up hf (pid % 256) (some la)))))))]) (w1 := [(w, .inr (10, [.ref tp, .ref la, .int q109.2.2.1, .int q109.2.2.2.1, .int q109.2.2.2.2.1, .int (nI (T.length + 5))])), (la, .inr (1, [.int (nI pid), va_rf none, .int (-1), .int 0, .long (-1), .int q109.2.2.2.2.2, va_rf none, va_rf none])), (tp, .inr (0, [.ref a, .int q109.2.1])), (a, .inl (cB, 9400, .inl q109.1))]) hP hD [4, 5, 6, 7] [0, 1, 2, 3] rfl rfl (by decide) (by decide) hk1 hFc hP1 hD1
  clear hk1 hP1 hD1 hFc hPc hDc hz1
  have hP : va_P D classes [(h, .inr (11, [.ref rv, .ref d])), (rv, .inr (4, [.ref tp, .ref ln, .ref tb, .ref ct, .ref dp])), (ln, .inr (2, [.ref hd])), (hd, .inl (cN, 256, .inr (.inr (.inr (.inr (va_up hf (pid % 256) (some la))))))), (w, .inr (10, [.ref tp, .ref la, .int q109.2.2.1, .int q109.2.2.2.1, .int q109.2.2.2.2.1, .int (nI (T.length + 5))])), (la, .inr (1, [.int (nI pid), va_rf none, .int (-1), .int 0, .long (-1), .int q109.2.2.2.2.2, va_rf none, va_rf none])), (tp, .inr (0, [.ref a, .int q109.2.1])), (a, .inl (cB, 9400, .inl q109.1))] H := hP
  have hD : va_D A [(h, .inr (11, [.ref rv, .ref d])), (rv, .inr (4, [.ref tp, .ref ln, .ref tb, .ref ct, .ref dp])), (ln, .inr (2, [.ref hd])), (hd, .inl (cN, 256, .inr (.inr (.inr (.inr (va_up hf (pid % 256) (some la))))))), (w, .inr (10, [.ref tp, .ref la, .int q109.2.2.1, .int q109.2.2.2.1, .int q109.2.2.2.2.1, .int (nI (T.length + 5))])), (la, .inr (1, [.int (nI pid), va_rf none, .int (-1), .int 0, .long (-1), .int q109.2.2.2.2.2, va_rf none, va_rf none])), (tp, .inr (0, [.ref a, .int q109.2.1])), (a, .inl (cB, 9400, .inl q109.1))] := hD
  have hob := ob_le how t0 (l9 &&& 8589934591)
  have hz1 : q109.2.1 = nI (T ++ ppL pid 0 184 0 (esL (((((([] : List Int32) ++ bsL 0 1) ++ bsL (252 : Int32).toInt64 1) ++ bsL (12288 : Int32).toInt64 2) ++ ohL nm (shQ l9)) ++ obL how t0 (l9 &&& 8589934591)))).length := e109.2.1
  have hz2 : q109.2.2.2.2.2 = nI (0 + (184 + 183) / 184) := by rw [e109.2.2.2.2.2, esL_len (by simp only [List.length_append, bs_len, List.length_nil, oh_len]; omega)]
  rw [hz1, hz2] at hP hD
  refine lv_aload_n hx hb d_SS_writeOrder_112 rfl (lv_at hl 1 rfl) ?_
  refine va_get (D := D) (ci := 11) (v := .ref rv) (C := R_SS) (T := F_SS) (N := 2) hx hb hts i_SS hown hK hP 0 rfl rfl 0 (by decide) (hts _ wd_198) (fun _ h9 => h9) rfl d_SS_writeOrder_113 ?_
  refine va_getN (D := D) (ci := 4) (v := .ref tp) (C := R_Receiver) (T := F_Receiver) (N := 5) hx hb hts i_Receiver hown hK hP 1 rfl rfl 0 (by decide) (hts _ wd_176) (fun _ h9 => h9) rfl d_SS_writeOrder_116 ?_
  refine va_getN (D := D) (ci := 0) (v := .int (nI (T ++ ppL pid 0 184 0 (esL (((((([] : List Int32) ++ bsL 0 1) ++ bsL (252 : Int32).toInt64 1) ++ bsL (12288 : Int32).toInt64 2) ++ ohL nm (shQ l9)) ++ obL how t0 (l9 &&& 8589934591)))).length)) (C := R_Row) (T := F_Row) (N := 2) hx hb hts i_Row hown hK hP 6 rfl rfl 1 (by decide) (hts _ wd_109) (fun _ h9 => h9) rfl d_SS_writeOrder_119 ?_
  have hP9 := hP.sub (ws' := [(h, .inr (11, [.ref rv, .ref d])), (rv, .inr (4, [.ref tp, .ref ln, .ref tb, .ref ct, .ref dp])), (ln, .inr (2, [.ref hd])), (hd, .inl (cN, 256, .inr (.inr (.inr (.inr (va_up hf (pid % 256) (some la))))))), (tp, .inr (0, [.ref a, .int (nI (T ++ ppL pid 0 184 0 (esL (((((([] : List Int32) ++ bsL 0 1) ++ bsL (252 : Int32).toInt64 1) ++ bsL (12288 : Int32).toInt64 2) ++ ohL nm (shQ l9)) ++ obL how t0 (l9 &&& 8589934591)))).length)])), (a, .inl (cB, 9400, .inl q109.1)), (la, .inr (1, [.int (nI pid), va_rf none, .int (-1), .int 0, .long (-1), .int (nI (0 + (184 + 183) / 184)), va_rf none, va_rf none]))]) [0, 1, 2, 3, 6, 7, 5] rfl
  have hD9 := hD.sub (ws' := [(h, .inr (11, [.ref rv, .ref d])), (rv, .inr (4, [.ref tp, .ref ln, .ref tb, .ref ct, .ref dp])), (ln, .inr (2, [.ref hd])), (hd, .inl (cN, 256, .inr (.inr (.inr (.inr (va_up hf (pid % 256) (some la))))))), (tp, .inr (0, [.ref a, .int (nI (T ++ ppL pid 0 184 0 (esL (((((([] : List Int32) ++ bsL 0 1) ++ bsL (252 : Int32).toInt64 1) ++ bsL (12288 : Int32).toInt64 2) ++ ohL nm (shQ l9)) ++ obL how t0 (l9 &&& 8589934591)))).length)])), (a, .inl (cB, 9400, .inl q109.1)), (la, .inr (1, [.int (nI pid), va_rf none, .int (-1), .int 0, .long (-1), .int (nI (0 + (184 + 183) / 184)), va_rf none, va_rf none]))]) [0, 1, 2, 3, 6, 7, 5] (by decide) rfl
  have hK9 := hK.sub (tys' := [(cB, .byte), (cN, .object "StreamSplitter$Lane")]) [0, 1] rfl
  refine W.widen (k := 2) (n := 14) (by omega) (by omega) ?_
  exact W.mono MQ.toT (W.iret (v := (nI (T ++ ppL pid 0 184 0 (esL (((((([] : List Int32) ++ bsL 0 1) ++ bsL (252 : Int32).toInt64 1) ++ bsL (12288 : Int32).toInt64 2) ++ ohL nm (shQ l9)) ++ obL how t0 (l9 &&& 8589934591)))).length)) hx hb hr (fun t ht hW => Or.inl ⟨_, (la, q109.1), rfl, ⟨rfl, e109.1⟩, ⟨by rw [ht]; exact hP9, va_K.moved hW.alike hK9, hD9⟩, hS.F ht⟩) hS.2.2 d_SS_writeOrder_122)
