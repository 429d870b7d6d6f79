theorem wd_23 : (Jvm.Cond.selects "StreamSplitter$Writer" ({ cls := "StreamSplitter$Writer", name := "putNumber", desc := "(JI)V" } : Jvm.MethodName) ({ cls := "StreamSplitter$Writer", name := "putNumber", desc := "(JI)V" } : Jvm.MethodName)) ∈ lw_ok := List.mem_filter.mpr ⟨List.mem_of_getElem? (i := 23) (by decide +kernel), rfl⟩
theorem wd_27 : (Jvm.Cond.selects "StreamSplitter$Writer" ({ cls := "StreamSplitter$Writer", name := "putFlagAndTime", desc := "(ZJ)V" } : Jvm.MethodName) ({ cls := "StreamSplitter$Writer", name := "putFlagAndTime", desc := "(ZJ)V" } : Jvm.MethodName)) ∈ lw_ok := List.mem_filter.mpr ⟨List.mem_of_getElem? (i := 27) (by decide +kernel), rfl⟩
theorem wd_985 : (Jvm.Cond.methodLink "StreamSplitter$Writer" (53 : Nat) ({ cls := "StreamSplitter$Writer", name := "putNumber", desc := "(JI)V" } : Jvm.MethodName)) ∈ lw_ok := List.mem_filter.mpr ⟨List.mem_of_getElem? (i := 985) (by decide +kernel), rfl⟩
theorem wd_987 : (Jvm.Cond.instanceMethod ({ cls := "StreamSplitter$Writer", name := "putNumber", desc := "(JI)V" } : Jvm.MethodName)) ∈ lw_ok := List.mem_filter.mpr ⟨List.mem_of_getElem? (i := 987) (by decide +kernel), rfl⟩
set_option maxRecDepth 100000 in
theorem wd_988 : (Jvm.Cond.code ({ cls := "StreamSplitter$Writer", name := "putNumber", desc := "(JI)V" } : Jvm.MethodName) prog_12_method_2_code (5 : Nat) (Option.none : Option Jvm.ClassFile.FieldType)) ∈ lw_ok := List.mem_filter.mpr ⟨List.mem_of_getElem? (i := 988) (by rfl), rfl⟩
theorem wd_1002 : (Jvm.Cond.constant "StreamSplitter$Writer" (76 : Nat) (57344 : Int32)) ∈ lw_ok := List.mem_filter.mpr ⟨List.mem_of_getElem? (i := 1002) (by decide +kernel), rfl⟩
theorem wd_1009 : (Jvm.Cond.constantLong "StreamSplitter$Writer" (70 : Nat) (255 : Int64)) ∈ lw_ok := List.mem_filter.mpr ⟨List.mem_of_getElem? (i := 1009) (by decide +kernel), rfl⟩
theorem wd_1028 : (Jvm.Cond.constantLong "StreamSplitter$Writer" (77 : Nat) (61440 : Int64)) ∈ lw_ok := List.mem_filter.mpr ⟨List.mem_of_getElem? (i := 1028) (by decide +kernel), rfl⟩
theorem wd_1044 : (Jvm.Cond.constantLong "StreamSplitter$Writer" (121 : Nat) (128 : Int64)) ∈ lw_ok := List.mem_filter.mpr ⟨List.mem_of_getElem? (i := 1044) (by decide +kernel), rfl⟩
theorem wd_1045 : (Jvm.Cond.constantLong "StreamSplitter$Writer" (123 : Nat) (32773 : Int64)) ∈ lw_ok := List.mem_filter.mpr ⟨List.mem_of_getElem? (i := 1045) (by decide +kernel), rfl⟩
theorem wd_1046 : (Jvm.Cond.constantLong "StreamSplitter$Writer" (125 : Nat) (32 : Int64)) ∈ lw_ok := List.mem_filter.mpr ⟨List.mem_of_getElem? (i := 1046) (by decide +kernel), rfl⟩
theorem wd_1047 : (Jvm.Cond.constantLong "StreamSplitter$Writer" (127 : Nat) (32767 : Int64)) ∈ lw_ok := List.mem_filter.mpr ⟨List.mem_of_getElem? (i := 1047) (by decide +kernel), rfl⟩
theorem wd_1066 : (Jvm.Cond.methodLink "StreamSplitter$Writer" (130 : Nat) ({ cls := "StreamSplitter$Writer", name := "putFlagAndTime", desc := "(ZJ)V" } : Jvm.MethodName)) ∈ lw_ok := List.mem_filter.mpr ⟨List.mem_of_getElem? (i := 1066) (by decide +kernel), rfl⟩
theorem wd_1068 : (Jvm.Cond.instanceMethod ({ cls := "StreamSplitter$Writer", name := "putFlagAndTime", desc := "(ZJ)V" } : Jvm.MethodName)) ∈ lw_ok := List.mem_filter.mpr ⟨List.mem_of_getElem? (i := 1068) (by decide +kernel), rfl⟩
set_option maxRecDepth 100000 in
theorem wd_1069 : (Jvm.Cond.code ({ cls := "StreamSplitter$Writer", name := "putFlagAndTime", desc := "(ZJ)V" } : Jvm.MethodName) prog_12_method_15_code (4 : Nat) (Option.none : Option Jvm.ClassFile.FieldType)) ∈ lw_ok := List.mem_filter.mpr ⟨List.mem_of_getElem? (i := 1069) (by rfl), rfl⟩
theorem wd_1070 : (Jvm.Cond.constantLong "StreamSplitter$Writer" (140 : Nat) (549755813888 : Int64)) ∈ lw_ok := List.mem_filter.mpr ⟨List.mem_of_getElem? (i := 1070) (by decide +kernel), rfl⟩
theorem wd_1071 : (Jvm.Cond.constantLong "StreamSplitter$Writer" (142 : Nat) (541165879296 : Int64)) ∈ lw_ok := List.mem_filter.mpr ⟨List.mem_of_getElem? (i := 1071) (by decide +kernel), rfl⟩
theorem wd_1072 : (Jvm.Cond.constantLong "StreamSplitter$Writer" (134 : Nat) (-1 : Int64)) ∈ lw_ok := List.mem_filter.mpr ⟨List.mem_of_getElem? (i := 1072) (by decide +kernel), rfl⟩
theorem wd_1073 : (Jvm.Cond.constantLong "StreamSplitter$Writer" (136 : Nat) (5 : Int64)) ∈ lw_ok := List.mem_filter.mpr ⟨List.mem_of_getElem? (i := 1073) (by decide +kernel), rfl⟩
theorem wd_1079 : (Jvm.Cond.constantLong "StreamSplitter$Writer" (138 : Nat) (127 : Int64)) ∈ lw_ok := List.mem_filter.mpr ⟨List.mem_of_getElem? (i := 1079) (by decide +kernel), rfl⟩
theorem hd_Writer_putFlagAndTime : y_Writer_putFlagAndTime.cls ≠ "java/lang/invoke/MethodHandle" ∧ y_Writer_putFlagAndTime.cls ≠ "java/lang/invoke/VarHandle" ∧ (parseMethodDescriptor y_Writer_putFlagAndTime.desc).map (fun d => d.parameters.length) = some 2 := by decide +kernel
theorem hd_Writer_putNumber : y_Writer_putNumber.cls ≠ "java/lang/invoke/MethodHandle" ∧ y_Writer_putNumber.cls ≠ "java/lang/invoke/VarHandle" ∧ (parseMethodDescriptor y_Writer_putNumber.desc).map (fun d => d.parameters.length) = some 2 := by decide +kernel
theorem d_Writer_putFlagAndTime_0 : decode b_Writer_putFlagAndTime 0 = .ok (.aload_n 0, 1) := by decide +kernel
theorem d_Writer_putFlagAndTime_1 : decode b_Writer_putFlagAndTime 1 = .ok (.iload_n 1, 1) := by decide +kernel
theorem d_Writer_putFlagAndTime_2 : decode b_Writer_putFlagAndTime 2 = .ok (.ifCond .eq 9, 3) := by decide +kernel
theorem d_Writer_putFlagAndTime_5 : decode b_Writer_putFlagAndTime 5 = .ok (.ldc2_w 140, 3) := by decide +kernel
theorem d_Writer_putFlagAndTime_8 : decode b_Writer_putFlagAndTime 8 = .ok (.goto 4, 3) := by decide +kernel
theorem d_Writer_putFlagAndTime_11 : decode b_Writer_putFlagAndTime 11 = .ok (.lconst 0, 1) := by decide +kernel
theorem d_Writer_putFlagAndTime_12 : decode b_Writer_putFlagAndTime 12 = .ok (.ldc2_w 142, 3) := by decide +kernel
theorem d_Writer_putFlagAndTime_15 : decode b_Writer_putFlagAndTime 15 = .ok (.lor, 1) := by decide +kernel
theorem d_Writer_putFlagAndTime_16 : decode b_Writer_putFlagAndTime 16 = .ok (.lload_n 2, 1) := by decide +kernel
theorem d_Writer_putFlagAndTime_17 : decode b_Writer_putFlagAndTime 17 = .ok (.lor, 1) := by decide +kernel
theorem d_Writer_putFlagAndTime_18 : decode b_Writer_putFlagAndTime 18 = .ok (.iconst 5, 1) := by decide +kernel
theorem d_Writer_putFlagAndTime_19 : decode b_Writer_putFlagAndTime 19 = .ok (.invokevirtual 53, 3) := by decide +kernel
theorem d_Writer_putFlagAndTime_22 : decode b_Writer_putFlagAndTime 22 = .ok (.return_, 1) := by decide +kernel
theorem d_Writer_putNoMore_0 : decode b_Writer_putNoMore 0 = .ok (.aload_n 0, 1) := by decide +kernel
theorem d_Writer_putNoMore_1 : decode b_Writer_putNoMore 1 = .ok (.ldc2_w 77, 3) := by decide +kernel
theorem d_Writer_putNoMore_4 : decode b_Writer_putNoMore 4 = .ok (.iconst 2, 1) := by decide +kernel
theorem d_Writer_putNoMore_5 : decode b_Writer_putNoMore 5 = .ok (.invokevirtual 53, 3) := by decide +kernel
theorem d_Writer_putNoMore_8 : decode b_Writer_putNoMore 8 = .ok (.return_, 1) := by decide +kernel
theorem d_Writer_putOrderBody_0 : decode b_Writer_putOrderBody 0 = .ok (.iload_n 1, 1) := by decide +kernel
theorem d_Writer_putOrderBody_1 : decode b_Writer_putOrderBody 1 = .ok (.iconst 1, 1) := by decide +kernel
theorem d_Writer_putOrderBody_2 : decode b_Writer_putOrderBody 2 = .ok (.iand, 1) := by decide +kernel
theorem d_Writer_putOrderBody_3 : decode b_Writer_putOrderBody 3 = .ok (.ifCond .eq 12, 3) := by decide +kernel
theorem d_Writer_putOrderBody_6 : decode b_Writer_putOrderBody 6 = .ok (.aload_n 0, 1) := by decide +kernel
theorem d_Writer_putOrderBody_7 : decode b_Writer_putOrderBody 7 = .ok (.ldc2_w 70, 3) := by decide +kernel
theorem d_Writer_putOrderBody_10 : decode b_Writer_putOrderBody 10 = .ok (.iconst 1, 1) := by decide +kernel
theorem d_Writer_putOrderBody_11 : decode b_Writer_putOrderBody 11 = .ok (.invokevirtual 53, 3) := by decide +kernel
theorem d_Writer_putOrderBody_14 : decode b_Writer_putOrderBody 14 = .ok (.return_, 1) := by decide +kernel
theorem d_Writer_putOrderBody_15 : decode b_Writer_putOrderBody 15 = .ok (.iload_n 1, 1) := by decide +kernel
theorem d_Writer_putOrderBody_16 : decode b_Writer_putOrderBody 16 = .ok (.bipush 8, 2) := by decide +kernel
theorem d_Writer_putOrderBody_18 : decode b_Writer_putOrderBody 18 = .ok (.iand, 1) := by decide +kernel
theorem d_Writer_putOrderBody_19 : decode b_Writer_putOrderBody 19 = .ok (.ifCond .eq 7, 3) := by decide +kernel
theorem d_Writer_putOrderBody_22 : decode b_Writer_putOrderBody 22 = .ok (.iconst 1, 1) := by decide +kernel
theorem d_Writer_putOrderBody_23 : decode b_Writer_putOrderBody 23 = .ok (.goto 4, 3) := by decide +kernel
theorem d_Writer_putOrderBody_26 : decode b_Writer_putOrderBody 26 = .ok (.iconst 0, 1) := by decide +kernel
theorem d_Writer_putOrderBody_27 : decode b_Writer_putOrderBody 27 = .ok (.istore 6, 2) := by decide +kernel
theorem d_Writer_putOrderBody_29 : decode b_Writer_putOrderBody 29 = .ok (.iload_n 1, 1) := by decide +kernel
theorem d_Writer_putOrderBody_30 : decode b_Writer_putOrderBody 30 = .ok (.iconst 4, 1) := by decide +kernel
theorem d_Writer_putOrderBody_31 : decode b_Writer_putOrderBody 31 = .ok (.iand, 1) := by decide +kernel
theorem d_Writer_putOrderBody_32 : decode b_Writer_putOrderBody 32 = .ok (.ifCond .eq 7, 3) := by decide +kernel
theorem d_Writer_putOrderBody_35 : decode b_Writer_putOrderBody 35 = .ok (.iconst 1, 1) := by decide +kernel
theorem d_Writer_putOrderBody_36 : decode b_Writer_putOrderBody 36 = .ok (.goto 4, 3) := by decide +kernel
theorem d_Writer_putOrderBody_39 : decode b_Writer_putOrderBody 39 = .ok (.iconst 0, 1) := by decide +kernel
theorem d_Writer_putOrderBody_40 : decode b_Writer_putOrderBody 40 = .ok (.istore 7, 2) := by decide +kernel
theorem d_Writer_putOrderBody_42 : decode b_Writer_putOrderBody 42 = .ok (.aload_n 0, 1) := by decide +kernel
theorem d_Writer_putOrderBody_43 : decode b_Writer_putOrderBody 43 = .ok (.ldc2_w 138, 3) := by decide +kernel
theorem d_Writer_putOrderBody_46 : decode b_Writer_putOrderBody 46 = .ok (.iconst 1, 1) := by decide +kernel
theorem d_Writer_putOrderBody_47 : decode b_Writer_putOrderBody 47 = .ok (.invokevirtual 53, 3) := by decide +kernel
theorem d_Writer_putOrderBody_50 : decode b_Writer_putOrderBody 50 = .ok (.aload_n 0, 1) := by decide +kernel
theorem d_Writer_putOrderBody_51 : decode b_Writer_putOrderBody 51 = .ok (.iload_n 1, 1) := by decide +kernel
theorem d_Writer_putOrderBody_52 : decode b_Writer_putOrderBody 52 = .ok (.iconst 2, 1) := by decide +kernel
theorem d_Writer_putOrderBody_53 : decode b_Writer_putOrderBody 53 = .ok (.iand, 1) := by decide +kernel
theorem d_Writer_putOrderBody_54 : decode b_Writer_putOrderBody 54 = .ok (.ifCond .eq 9, 3) := by decide +kernel
theorem d_Writer_putOrderBody_57 : decode b_Writer_putOrderBody 57 = .ok (.sipush 128, 3) := by decide +kernel
theorem d_Writer_putOrderBody_60 : decode b_Writer_putOrderBody 60 = .ok (.goto 4, 3) := by decide +kernel
theorem d_Writer_putOrderBody_63 : decode b_Writer_putOrderBody 63 = .ok (.iconst 0, 1) := by decide +kernel
theorem d_Writer_putOrderBody_64 : decode b_Writer_putOrderBody 64 = .ok (.iload 6, 2) := by decide +kernel
theorem d_Writer_putOrderBody_66 : decode b_Writer_putOrderBody 66 = .ok (.ifCond .eq 8, 3) := by decide +kernel
theorem d_Writer_putOrderBody_69 : decode b_Writer_putOrderBody 69 = .ok (.bipush 32, 2) := by decide +kernel
theorem d_Writer_putOrderBody_71 : decode b_Writer_putOrderBody 71 = .ok (.goto 4, 3) := by decide +kernel
theorem d_Writer_putOrderBody_74 : decode b_Writer_putOrderBody 74 = .ok (.iconst 0, 1) := by decide +kernel
theorem d_Writer_putOrderBody_75 : decode b_Writer_putOrderBody 75 = .ok (.ior, 1) := by decide +kernel
theorem d_Writer_putOrderBody_76 : decode b_Writer_putOrderBody 76 = .ok (.iload 7, 2) := by decide +kernel
theorem d_Writer_putOrderBody_78 : decode b_Writer_putOrderBody 78 = .ok (.ifCond .eq 8, 3) := by decide +kernel
theorem d_Writer_putOrderBody_81 : decode b_Writer_putOrderBody 81 = .ok (.bipush 16, 2) := by decide +kernel
theorem d_Writer_putOrderBody_83 : decode b_Writer_putOrderBody 83 = .ok (.goto 4, 3) := by decide +kernel
theorem d_Writer_putOrderBody_86 : decode b_Writer_putOrderBody 86 = .ok (.iconst 0, 1) := by decide +kernel
theorem d_Writer_putOrderBody_87 : decode b_Writer_putOrderBody 87 = .ok (.ior, 1) := by decide +kernel
theorem d_Writer_putOrderBody_88 : decode b_Writer_putOrderBody 88 = .ok (.bipush 79, 2) := by decide +kernel
theorem d_Writer_putOrderBody_90 : decode b_Writer_putOrderBody 90 = .ok (.ior, 1) := by decide +kernel
theorem d_Writer_putOrderBody_91 : decode b_Writer_putOrderBody 91 = .ok (.i2l, 1) := by decide +kernel
theorem d_Writer_putOrderBody_92 : decode b_Writer_putOrderBody 92 = .ok (.iconst 1, 1) := by decide +kernel
theorem d_Writer_putOrderBody_93 : decode b_Writer_putOrderBody 93 = .ok (.invokevirtual 53, 3) := by decide +kernel
theorem d_Writer_putOrderBody_96 : decode b_Writer_putOrderBody 96 = .ok (.iload 7, 2) := by decide +kernel
theorem d_Writer_putOrderBody_98 : decode b_Writer_putOrderBody 98 = .ok (.ifCond .ne 19, 3) := by decide +kernel
theorem d_Writer_putOrderBody_101 : decode b_Writer_putOrderBody 101 = .ok (.iload_n 1, 1) := by decide +kernel
theorem d_Writer_putOrderBody_102 : decode b_Writer_putOrderBody 102 = .ok (.bipush 32, 2) := by decide +kernel
theorem d_Writer_putOrderBody_104 : decode b_Writer_putOrderBody 104 = .ok (.iand, 1) := by decide +kernel
theorem d_Writer_putOrderBody_105 : decode b_Writer_putOrderBody 105 = .ok (.ifCond .eq 12, 3) := by decide +kernel
theorem d_Writer_putOrderBody_108 : decode b_Writer_putOrderBody 108 = .ok (.aload_n 0, 1) := by decide +kernel
theorem d_Writer_putOrderBody_109 : decode b_Writer_putOrderBody 109 = .ok (.iconst 1, 1) := by decide +kernel
theorem d_Writer_putOrderBody_110 : decode b_Writer_putOrderBody 110 = .ok (.lload_n 2, 1) := by decide +kernel
theorem d_Writer_putOrderBody_111 : decode b_Writer_putOrderBody 111 = .ok (.invokevirtual 130, 3) := by decide +kernel
theorem d_Writer_putOrderBody_114 : decode b_Writer_putOrderBody 114 = .ok (.goto 16, 3) := by decide +kernel
theorem d_Writer_putOrderBody_117 : decode b_Writer_putOrderBody 117 = .ok (.iload 7, 2) := by decide +kernel
theorem d_Writer_putOrderBody_119 : decode b_Writer_putOrderBody 119 = .ok (.ifCond .ne 11, 3) := by decide +kernel
theorem d_Writer_putOrderBody_122 : decode b_Writer_putOrderBody 122 = .ok (.aload_n 0, 1) := by decide +kernel
theorem d_Writer_putOrderBody_123 : decode b_Writer_putOrderBody 123 = .ok (.ldc2_w 138, 3) := by decide +kernel
theorem d_Writer_putOrderBody_126 : decode b_Writer_putOrderBody 126 = .ok (.iconst 1, 1) := by decide +kernel
theorem d_Writer_putOrderBody_127 : decode b_Writer_putOrderBody 127 = .ok (.invokevirtual 53, 3) := by decide +kernel
theorem d_Writer_putOrderBody_130 : decode b_Writer_putOrderBody 130 = .ok (.iload 6, 2) := by decide +kernel
theorem d_Writer_putOrderBody_132 : decode b_Writer_putOrderBody 132 = .ok (.ifCond .eq 21, 3) := by decide +kernel
theorem d_Writer_putOrderBody_135 : decode b_Writer_putOrderBody 135 = .ok (.aload_n 0, 1) := by decide +kernel
theorem d_Writer_putOrderBody_136 : decode b_Writer_putOrderBody 136 = .ok (.iload_n 1, 1) := by decide +kernel
theorem d_Writer_putOrderBody_137 : decode b_Writer_putOrderBody 137 = .ok (.bipush 16, 2) := by decide +kernel
theorem d_Writer_putOrderBody_139 : decode b_Writer_putOrderBody 139 = .ok (.iand, 1) := by decide +kernel
theorem d_Writer_putOrderBody_140 : decode b_Writer_putOrderBody 140 = .ok (.ifCond .eq 7, 3) := by decide +kernel
theorem d_Writer_putOrderBody_143 : decode b_Writer_putOrderBody 143 = .ok (.iconst 1, 1) := by decide +kernel
theorem d_Writer_putOrderBody_144 : decode b_Writer_putOrderBody 144 = .ok (.goto 4, 3) := by decide +kernel
theorem d_Writer_putOrderBody_147 : decode b_Writer_putOrderBody 147 = .ok (.iconst 0, 1) := by decide +kernel
theorem d_Writer_putOrderBody_148 : decode b_Writer_putOrderBody 148 = .ok (.lload 4, 2) := by decide +kernel
theorem d_Writer_putOrderBody_150 : decode b_Writer_putOrderBody 150 = .ok (.invokevirtual 130, 3) := by decide +kernel
theorem d_Writer_putOrderBody_153 : decode b_Writer_putOrderBody 153 = .ok (.aload_n 0, 1) := by decide +kernel
theorem d_Writer_putOrderBody_154 : decode b_Writer_putOrderBody 154 = .ok (.ldc2_w 134, 3) := by decide +kernel
theorem d_Writer_putOrderBody_157 : decode b_Writer_putOrderBody 157 = .ok (.iconst 4, 1) := by decide +kernel
theorem d_Writer_putOrderBody_158 : decode b_Writer_putOrderBody 158 = .ok (.invokevirtual 53, 3) := by decide +kernel
theorem d_Writer_putOrderBody_161 : decode b_Writer_putOrderBody 161 = .ok (.return_, 1) := by decide +kernel
theorem d_Writer_putOrderHead_0 : decode b_Writer_putOrderHead 0 = .ok (.aload_n 0, 1) := by decide +kernel
theorem d_Writer_putOrderHead_1 : decode b_Writer_putOrderHead 1 = .ok (.lconst 0, 1) := by decide +kernel
theorem d_Writer_putOrderHead_2 : decode b_Writer_putOrderHead 2 = .ok (.iconst 1, 1) := by decide +kernel
theorem d_Writer_putOrderHead_3 : decode b_Writer_putOrderHead 3 = .ok (.invokevirtual 53, 3) := by decide +kernel
theorem d_Writer_putOrderHead_6 : decode b_Writer_putOrderHead 6 = .ok (.aload_n 0, 1) := by decide +kernel
theorem d_Writer_putOrderHead_7 : decode b_Writer_putOrderHead 7 = .ok (.iconst 0, 1) := by decide +kernel
theorem d_Writer_putOrderHead_8 : decode b_Writer_putOrderHead 8 = .ok (.lload_n 2, 1) := by decide +kernel
theorem d_Writer_putOrderHead_9 : decode b_Writer_putOrderHead 9 = .ok (.invokevirtual 130, 3) := by decide +kernel
theorem d_Writer_putOrderHead_12 : decode b_Writer_putOrderHead 12 = .ok (.aload_n 0, 1) := by decide +kernel
theorem d_Writer_putOrderHead_13 : decode b_Writer_putOrderHead 13 = .ok (.ldc2_w 134, 3) := by decide +kernel
theorem d_Writer_putOrderHead_16 : decode b_Writer_putOrderHead 16 = .ok (.iconst 4, 1) := by decide +kernel
theorem d_Writer_putOrderHead_17 : decode b_Writer_putOrderHead 17 = .ok (.invokevirtual 53, 3) := by decide +kernel
theorem d_Writer_putOrderHead_20 : decode b_Writer_putOrderHead 20 = .ok (.aload_n 0, 1) := by decide +kernel
theorem d_Writer_putOrderHead_21 : decode b_Writer_putOrderHead 21 = .ok (.ldc2_w 136, 3) := by decide +kernel
theorem d_Writer_putOrderHead_24 : decode b_Writer_putOrderHead 24 = .ok (.iconst 1, 1) := by decide +kernel
theorem d_Writer_putOrderHead_25 : decode b_Writer_putOrderHead 25 = .ok (.invokevirtual 53, 3) := by decide +kernel
theorem d_Writer_putOrderHead_28 : decode b_Writer_putOrderHead 28 = .ok (.aload_n 0, 1) := by decide +kernel
theorem d_Writer_putOrderHead_29 : decode b_Writer_putOrderHead 29 = .ok (.iload_n 1, 1) := by decide +kernel
theorem d_Writer_putOrderHead_30 : decode b_Writer_putOrderHead 30 = .ok (.i2l, 1) := by decide +kernel
theorem d_Writer_putOrderHead_31 : decode b_Writer_putOrderHead 31 = .ok (.iconst 4, 1) := by decide +kernel
theorem d_Writer_putOrderHead_32 : decode b_Writer_putOrderHead 32 = .ok (.invokevirtual 53, 3) := by decide +kernel
theorem d_Writer_putOrderHead_35 : decode b_Writer_putOrderHead 35 = .ok (.return_, 1) := by decide +kernel
theorem d_Writer_putPid_0 : decode b_Writer_putPid 0 = .ok (.aload_n 0, 1) := by decide +kernel
theorem d_Writer_putPid_1 : decode b_Writer_putPid 1 = .ok (.ldc 76, 2) := by decide +kernel
theorem d_Writer_putPid_3 : decode b_Writer_putPid 3 = .ok (.iload_n 1, 1) := by decide +kernel
theorem d_Writer_putPid_4 : decode b_Writer_putPid 4 = .ok (.ior, 1) := by decide +kernel
theorem d_Writer_putPid_5 : decode b_Writer_putPid 5 = .ok (.i2l, 1) := by decide +kernel
theorem d_Writer_putPid_6 : decode b_Writer_putPid 6 = .ok (.iconst 2, 1) := by decide +kernel
theorem d_Writer_putPid_7 : decode b_Writer_putPid 7 = .ok (.invokevirtual 53, 3) := by decide +kernel
theorem d_Writer_putPid_10 : decode b_Writer_putPid 10 = .ok (.return_, 1) := by decide +kernel
theorem d_Writer_putPieceHead_0 : decode b_Writer_putPieceHead 0 = .ok (.aload_n 0, 1) := by decide +kernel
theorem d_Writer_putPieceHead_1 : decode b_Writer_putPieceHead 1 = .ok (.lconst 1, 1) := by decide +kernel
theorem d_Writer_putPieceHead_2 : decode b_Writer_putPieceHead 2 = .ok (.iconst 3, 1) := by decide +kernel
theorem d_Writer_putPieceHead_3 : decode b_Writer_putPieceHead 3 = .ok (.invokevirtual 53, 3) := by decide +kernel
theorem d_Writer_putPieceHead_6 : decode b_Writer_putPieceHead 6 = .ok (.aload_n 0, 1) := by decide +kernel
theorem d_Writer_putPieceHead_7 : decode b_Writer_putPieceHead 7 = .ok (.iload_n 1, 1) := by decide +kernel
theorem d_Writer_putPieceHead_8 : decode b_Writer_putPieceHead 8 = .ok (.i2l, 1) := by decide +kernel
theorem d_Writer_putPieceHead_9 : decode b_Writer_putPieceHead 9 = .ok (.iconst 1, 1) := by decide +kernel
theorem d_Writer_putPieceHead_10 : decode b_Writer_putPieceHead 10 = .ok (.invokevirtual 53, 3) := by decide +kernel
theorem d_Writer_putPieceHead_13 : decode b_Writer_putPieceHead 13 = .ok (.aload_n 0, 1) := by decide +kernel
theorem d_Writer_putPieceHead_14 : decode b_Writer_putPieceHead 14 = .ok (.iload 4, 2) := by decide +kernel
theorem d_Writer_putPieceHead_16 : decode b_Writer_putPieceHead 16 = .ok (.i2l, 1) := by decide +kernel
theorem d_Writer_putPieceHead_17 : decode b_Writer_putPieceHead 17 = .ok (.iconst 2, 1) := by decide +kernel
theorem d_Writer_putPieceHead_18 : decode b_Writer_putPieceHead 18 = .ok (.invokevirtual 53, 3) := by decide +kernel
theorem d_Writer_putPieceHead_21 : decode b_Writer_putPieceHead 21 = .ok (.aload_n 0, 1) := by decide +kernel
theorem d_Writer_putPieceHead_22 : decode b_Writer_putPieceHead 22 = .ok (.ldc2_w 121, 3) := by decide +kernel
theorem d_Writer_putPieceHead_25 : decode b_Writer_putPieceHead 25 = .ok (.iconst 1, 1) := by decide +kernel
theorem d_Writer_putPieceHead_26 : decode b_Writer_putPieceHead 26 = .ok (.invokevirtual 53, 3) := by decide +kernel
theorem d_Writer_putPieceHead_29 : decode b_Writer_putPieceHead 29 = .ok (.lload_n 2, 1) := by decide +kernel
theorem d_Writer_putPieceHead_30 : decode b_Writer_putPieceHead 30 = .ok (.lconst 0, 1) := by decide +kernel
theorem d_Writer_putPieceHead_31 : decode b_Writer_putPieceHead 31 = .ok (.lcmp, 1) := by decide +kernel
theorem d_Writer_putPieceHead_32 : decode b_Writer_putPieceHead 32 = .ok (.ifCond .ge 10, 3) := by decide +kernel
theorem d_Writer_putPieceHead_35 : decode b_Writer_putPieceHead 35 = .ok (.aload_n 0, 1) := by decide +kernel
theorem d_Writer_putPieceHead_36 : decode b_Writer_putPieceHead 36 = .ok (.lconst 0, 1) := by decide +kernel
theorem d_Writer_putPieceHead_37 : decode b_Writer_putPieceHead 37 = .ok (.iconst 2, 1) := by decide +kernel
theorem d_Writer_putPieceHead_38 : decode b_Writer_putPieceHead 38 = .ok (.invokevirtual 53, 3) := by decide +kernel
theorem d_Writer_putPieceHead_41 : decode b_Writer_putPieceHead 41 = .ok (.return_, 1) := by decide +kernel
theorem d_Writer_putPieceHead_42 : decode b_Writer_putPieceHead 42 = .ok (.aload_n 0, 1) := by decide +kernel
theorem d_Writer_putPieceHead_43 : decode b_Writer_putPieceHead 43 = .ok (.ldc2_w 123, 3) := by decide +kernel
theorem d_Writer_putPieceHead_46 : decode b_Writer_putPieceHead 46 = .ok (.iconst 2, 1) := by decide +kernel
theorem d_Writer_putPieceHead_47 : decode b_Writer_putPieceHead 47 = .ok (.invokevirtual 53, 3) := by decide +kernel
theorem d_Writer_putPieceHead_50 : decode b_Writer_putPieceHead 50 = .ok (.aload_n 0, 1) := by decide +kernel
theorem d_Writer_putPieceHead_51 : decode b_Writer_putPieceHead 51 = .ok (.ldc2_w 125, 3) := by decide +kernel
theorem d_Writer_putPieceHead_54 : decode b_Writer_putPieceHead 54 = .ok (.lload_n 2, 1) := by decide +kernel
theorem d_Writer_putPieceHead_55 : decode b_Writer_putPieceHead 55 = .ok (.bipush 30, 2) := by decide +kernel
theorem d_Writer_putPieceHead_57 : decode b_Writer_putPieceHead 57 = .ok (.lshr, 1) := by decide +kernel
theorem d_Writer_putPieceHead_58 : decode b_Writer_putPieceHead 58 = .ok (.iconst 1, 1) := by decide +kernel
theorem d_Writer_putPieceHead_59 : decode b_Writer_putPieceHead 59 = .ok (.lshl, 1) := by decide +kernel
theorem d_Writer_putPieceHead_60 : decode b_Writer_putPieceHead 60 = .ok (.lor, 1) := by decide +kernel
theorem d_Writer_putPieceHead_61 : decode b_Writer_putPieceHead 61 = .ok (.lconst 1, 1) := by decide +kernel
theorem d_Writer_putPieceHead_62 : decode b_Writer_putPieceHead 62 = .ok (.lor, 1) := by decide +kernel
theorem d_Writer_putPieceHead_63 : decode b_Writer_putPieceHead 63 = .ok (.iconst 1, 1) := by decide +kernel
theorem d_Writer_putPieceHead_64 : decode b_Writer_putPieceHead 64 = .ok (.invokevirtual 53, 3) := by decide +kernel
theorem d_Writer_putPieceHead_67 : decode b_Writer_putPieceHead 67 = .ok (.aload_n 0, 1) := by decide +kernel
theorem d_Writer_putPieceHead_68 : decode b_Writer_putPieceHead 68 = .ok (.lload_n 2, 1) := by decide +kernel
theorem d_Writer_putPieceHead_69 : decode b_Writer_putPieceHead 69 = .ok (.bipush 15, 2) := by decide +kernel
theorem d_Writer_putPieceHead_71 : decode b_Writer_putPieceHead 71 = .ok (.lshr, 1) := by decide +kernel
theorem d_Writer_putPieceHead_72 : decode b_Writer_putPieceHead 72 = .ok (.ldc2_w 127, 3) := by decide +kernel
theorem d_Writer_putPieceHead_75 : decode b_Writer_putPieceHead 75 = .ok (.land, 1) := by decide +kernel
theorem d_Writer_putPieceHead_76 : decode b_Writer_putPieceHead 76 = .ok (.iconst 1, 1) := by decide +kernel
theorem d_Writer_putPieceHead_77 : decode b_Writer_putPieceHead 77 = .ok (.lshl, 1) := by decide +kernel
theorem d_Writer_putPieceHead_78 : decode b_Writer_putPieceHead 78 = .ok (.lconst 1, 1) := by decide +kernel
theorem d_Writer_putPieceHead_79 : decode b_Writer_putPieceHead 79 = .ok (.lor, 1) := by decide +kernel
theorem d_Writer_putPieceHead_80 : decode b_Writer_putPieceHead 80 = .ok (.iconst 2, 1) := by decide +kernel
theorem d_Writer_putPieceHead_81 : decode b_Writer_putPieceHead 81 = .ok (.invokevirtual 53, 3) := by decide +kernel
theorem d_Writer_putPieceHead_84 : decode b_Writer_putPieceHead 84 = .ok (.aload_n 0, 1) := by decide +kernel
theorem d_Writer_putPieceHead_85 : decode b_Writer_putPieceHead 85 = .ok (.lload_n 2, 1) := by decide +kernel
theorem d_Writer_putPieceHead_86 : decode b_Writer_putPieceHead 86 = .ok (.ldc2_w 127, 3) := by decide +kernel
theorem d_Writer_putPieceHead_89 : decode b_Writer_putPieceHead 89 = .ok (.land, 1) := by decide +kernel
theorem d_Writer_putPieceHead_90 : decode b_Writer_putPieceHead 90 = .ok (.iconst 1, 1) := by decide +kernel
theorem d_Writer_putPieceHead_91 : decode b_Writer_putPieceHead 91 = .ok (.lshl, 1) := by decide +kernel
theorem d_Writer_putPieceHead_92 : decode b_Writer_putPieceHead 92 = .ok (.lconst 1, 1) := by decide +kernel
theorem d_Writer_putPieceHead_93 : decode b_Writer_putPieceHead 93 = .ok (.lor, 1) := by decide +kernel
theorem d_Writer_putPieceHead_94 : decode b_Writer_putPieceHead 94 = .ok (.iconst 2, 1) := by decide +kernel
theorem d_Writer_putPieceHead_95 : decode b_Writer_putPieceHead 95 = .ok (.invokevirtual 53, 3) := by decide +kernel
theorem d_Writer_putPieceHead_98 : decode b_Writer_putPieceHead 98 = .ok (.return_, 1) := by decide +kernel
/-! What the writer's small methods put -/
def ftV (fl : Int32) (t : Int64) : Int64 := ((if fl = 0 then 0 else 549755813888) ||| 541165879296) ||| t
def phL (kd : Int32) (t : Int64) (ts : Int32) : List Int32 := (((bsL 1 3 ++ bsL kd.toInt64 1) ++ bsL ts.toInt64 2) ++ bsL 128 1) ++ (if t < 0 then bsL 0 2 else ((bsL 32773 2 ++ bsL ((32 ||| ((t >>> ((30 : Int32).toInt64 &&& 63)) <<< ((1 : Int32).toInt64 &&& 63))) ||| 1) 1) ++ bsL ((((t >>> ((15 : Int32).toInt64 &&& 63)) &&& 32767) <<< ((1 : Int32).toInt64 &&& 63)) ||| 1) 2) ++ bsL (((t &&& 32767) <<< ((1 : Int32).toInt64 &&& 63)) ||| 1) 2)
theorem ph_len (kd : Int32) (t : Int64) (ts : Int32) : (phL kd t ts).length = if t < 0 then 9 else 14 := by
  unfold phL
  by_cases c : t < 0
  · simp [c, bs_len]
  · simp [c, bs_len]
/-- the generator of a piece's data -/
def gnX (x : Int32) : Nat → Int32
  | 0 => x
  | j + 1 => 1103515245 * gnX x j + 12345
def gnL (x : Int32) (n : Nat) : List Int32 := (List.range n).map (fun j => pb ((gnX x (j + 1)) >>> ((16 : Int32) &&& 31)).toInt64 0)
theorem gn_len (x : Int32) (n : Nat) : (gnL x n).length = n := by simp [gnL]
theorem gn_take (x : Int32) {n j : Nat} (h : j < n) : (gnL x n).take (j + 1) = (gnL x n).take j ++ bsL ((gnX x (j + 1)) >>> ((16 : Int32) &&& 31)).toInt64 1 := by
  rw [List.take_succ, bs_1]
  congr 1
  simp only [gnL, List.getElem?_map, List.getElem?_range h, Option.map_some, Option.toList_some]
def ohL (nm : Int32) (t : Int64) : List Int32 := (((bsL 0 1 ++ bsL (ftV 0 t) 5) ++ bsL (-1) 4) ++ bsL 5 1) ++ bsL nm.toInt64 4
def obF (how : Int32) : Int32 := (((if how &&& 2 = 0 then 0 else 128) ||| (if how &&& 8 = 0 then 0 else 32)) ||| (if how &&& 4 = 0 then 0 else 16)) ||| 79
def obL (how : Int32) (t ln : Int64) : List Int32 := if how &&& 1 = 0 then (((bsL 127 1 ++ bsL (obF how).toInt64 1) ++ (if how &&& 4 = 0 then (if how &&& 32 = 0 then bsL 127 1 else bsL (ftV 1 t) 5) else [])) ++ (if how &&& 8 = 0 then [] else bsL (ftV (if how &&& 16 = 0 then 0 else 1) ln) 5)) ++ bsL (-1) 4 else bsL 255 1
theorem ob_i {x : Int32} {c : Prop} [Decidable c] (h : x = if c then 0 else 1) : x = 0 ↔ c := by
  rw [h]
  by_cases d : c
  · simp [d]
  · simp [d]

set_option maxHeartbeats 4000000 in
set_option maxRecDepth 100000 in
theorem c_Writer_putPid (l : Launch) (D : va_G) (sz : Nat) (cB : ClassId) (w tp a : Nat) (q0 : WQ) (ss : Int32) (la : Nat) (nx se pi : Option Nat) (ct tw : Int32) (ck : Int64) (pid w0 tot : Nat) (T0 B : List Int32) (x : Int32) (hq0 : WS pid w0 tot T0 B q0) (htot : tot ≤ 4100) (hT : T0.length + 188 * ((tot + 183) / 184) ≤ 9400) (hpid : pid < 8192) (hw0 : w0 < 2 ^ 29) (hB : B.length + 2 ≤ tot) : Met l y_Writer_putPid [Cond.code y_Writer_putPid b_Writer_putPid 2 none] ({ frames := 3, cells := 0, slots := 0, locals := 67 }) (zM [.ref w, .int x] D [(w, .inr (10, [.ref tp, .ref la, .int q0.2.2.1, .int q0.2.2.2.1, .int q0.2.2.2.2.1, .int ss])), (la, .inr (1, [.int (nI pid), va_rf nx, .int ct, .int tw, .long ck, .int q0.2.2.2.2.2, va_rf se, va_rf pi])), (tp, .inr (0, [.ref a, .int q0.2.1])), (a, .inl (cB, 9400, .inl q0.1))] [(cB, .byte)] sz) (va_Qv (fun (u : WQ) => WS pid w0 tot T0 (B ++ bsL (57344 ||| x).toInt64 2) u) (fun (u : WQ) t => zW D (va_A [(w, .inr (10, [.ref tp, .ref la, .int q0.2.2.1, .int q0.2.2.2.1, .int q0.2.2.2.2.1, .int ss])), (la, .inr (1, [.int (nI pid), va_rf nx, .int ct, .int tw, .long ck, .int q0.2.2.2.2.2, va_rf se, va_rf pi])), (tp, .inr (0, [.ref a, .int q0.2.1])), (a, .inl (cB, 9400, .inl q0.1))] sz) [(w, .inr (10, [.ref tp, .ref la, .int u.2.2.1, .int u.2.2.2.1, .int u.2.2.2.2.1, .int ss])), (la, .inr (1, [.int (nI pid), va_rf nx, .int ct, .int tw, .long ck, .int u.2.2.2.2.2, va_rf se, va_rf pi])), (tp, .inr (0, [.ref a, .int u.2.1])), (a, .inl (cB, 9400, .inl u.1))] [(cB, .byte)] t) (va_A [(w, .inr (10, [.ref tp, .ref la, .int q0.2.2.1, .int q0.2.2.2.1, .int q0.2.2.2.2.1, .int ss])), (la, .inr (1, [.int (nI pid), va_rf nx, .int ct, .int tw, .long ck, .int q0.2.2.2.2.2, va_rf se, va_rf pi])), (tp, .inr (0, [.ref a, .int q0.2.1])), (a, .inl (cB, 9400, .inl q0.1))] sz)) 0 0 (va_A [(w, .inr (10, [.ref tp, .ref la, .int q0.2.2.1, .int q0.2.2.2.1, .int q0.2.2.2.2.1, .int ss])), (la, .inr (1, [.int (nI pid), va_rf nx, .int ct, .int tw, .long ck, .int q0.2.2.2.2.2, va_rf se, va_rf pi])), (tp, .inr (0, [.ref a, .int q0.2.1])), (a, .inl (cB, 9400, .inl q0.1))] sz) := by
  refine Met.ofW (cc := b_Writer_putPid) (maxL := 2) (ret := none) (by decide) rfl ?_
  intro p e s m args below meth cd s₁ Bd hml hv
  obtain ⟨rfl, hsz, hP, hK, hN, hD0⟩ := hv
  have hx := Bd.exec
  have hb := Bd.bytes
  have hr := Bd.returns
  have hts := hN.use (a := ([.ref w, .int x]).toArray)
  have hown : s.vm.findClass R_Writer = some m.cls := findClass_of_methodNamed Bd.named
  have hlocks := Bd.notSynchronized
  subst hsz
  have hD := hD0.self (sz := s.heap.size)
  clear hD0
  have hA : ∀ q : Nat, s.heap.size ≤ q → va_A [(w, .inr (10, [.ref tp, .ref la, .int q0.2.2.1, .int q0.2.2.2.1, .int q0.2.2.2.2.1, .int ss])), (la, .inr (1, [.int (nI pid), va_rf nx, .int ct, .int tw, .long ck, .int q0.2.2.2.2.2, va_rf se, va_rf pi])), (tp, .inr (0, [.ref a, .int q0.2.1])), (a, .inl (cB, 9400, .inl q0.1))] s.heap.size q := fun q h => Or.inr h
  have hS : va_S (va_A [(w, .inr (10, [.ref tp, .ref la, .int q0.2.2.1, .int q0.2.2.2.1, .int q0.2.2.2.2.1, .int ss])), (la, .inr (1, [.int (nI pid), va_rf nx, .int ct, .int tw, .long ck, .int q0.2.2.2.2.2, va_rf se, va_rf pi])), (tp, .inr (0, [.ref a, .int q0.2.1])), (a, .inl (cB, 9400, .inl q0.1))] s.heap.size) s.heap s.heap [] := va_S.rf
  generalize hAe : va_A [(w, .inr (10, [.ref tp, .ref la, .int q0.2.2.1, .int q0.2.2.2.1, .int q0.2.2.2.2.1, .int ss])), (la, .inr (1, [.int (nI pid), va_rf nx, .int ct, .int tw, .long ck, .int q0.2.2.2.2.2, va_rf se, va_rf pi])), (tp, .inr (0, [.ref a, .int q0.2.1])), (a, .inl (cB, 9400, .inl q0.1))] s.heap.size = A at hD hA hS ⊢
  have hP : va_P D classes [(w, .inr (10, [.ref tp, .ref la, .int q0.2.2.1, .int q0.2.2.2.1, .int q0.2.2.2.2.1, .int ss])), (la, .inr (1, [.int (nI pid), va_rf nx, .int ct, .int tw, .long ck, .int q0.2.2.2.2.2, va_rf se, va_rf pi])), (tp, .inr (0, [.ref a, .int q0.2.1])), (a, .inl (cB, 9400, .inl q0.1))] s.heap := hP
  have hl := lv_entry ([.ref w, .int x]) (n := 2) (Nat.le_of_ble_eq_true rfl)
  rw [lg_entry_eq]
  generalize (lg_sl ([.ref w, .int x]) ++ List.replicate (2 - (lg_sl ([.ref w, .int x])).length) Slot.unset).toArray = ls at hl ⊢
  have hl : lv_has ls 2 [(0, .ref w), (1, .int x)] := hl
  refine lv_aload_n hx hb d_Writer_putPid_0 rfl (lv_at hl 0 rfl) ?_
  refine lv_ldc hx hb hown (hts _ wd_1002) d_Writer_putPid_1 ?_
  refine lv_iload_n hx hb d_Writer_putPid_3 rfl (lv_at hl 1 rfl) ?_
  refine lv_ior hx hb d_Writer_putPid_4 ?_
  refine lv_i2l (v := (57344 ||| x).toInt64) hx hb d_Writer_putPid_5 rfl ?_
  refine lv_iconst (v := 2) hx hb d_Writer_putPid_6 (by decide) ?_
  have hPc := hP.sub (ws' := [(w, .inr (10, [.ref tp, .ref la, .int q0.2.2.1, .int q0.2.2.2.1, .int q0.2.2.2.2.1, .int ss])), (la, .inr (1, [.int (nI pid), va_rf nx, .int ct, .int tw, .long ck, .int q0.2.2.2.2.2, va_rf se, va_rf pi])), (tp, .inr (0, [.ref a, .int q0.2.1])), (a, .inl (cB, 9400, .inl q0.1))]) [0, 1, 2, 3] rfl
  have hKc := hK.sub (tys' := [(cB, .byte)]) [0] rfl
  have hDc := hD.sub (ws' := [(w, .inr (10, [.ref tp, .ref la, .int q0.2.2.1, .int q0.2.2.2.1, .int q0.2.2.2.2.1, .int ss])), (la, .inr (1, [.int (nI pid), va_rf nx, .int ct, .int tw, .long ck, .int q0.2.2.2.2.2, va_rf se, va_rf pi])), (tp, .inr (0, [.ref a, .int q0.2.1])), (a, .inl (cB, 9400, .inl q0.1))]) [0, 1, 2, 3] (by decide) rfl
  have hFc := va_free (wc := [(w, .inr (10, [.ref tp, .ref la, .int q0.2.2.1, .int q0.2.2.2.1, .int q0.2.2.2.2.1, .int ss])), (la, .inr (1, [.int (nI pid), va_rf nx, .int ct, .int tw, .long ck, .int q0.2.2.2.2.2, va_rf se, va_rf pi])), (tp, .inr (0, [.ref a, .int q0.2.1])), (a, .inl (cB, 9400, .inl q0.1))]) hD hS hA [0, 1, 2, 3] rfl
  refine va_callv (va_runV (As := [.long ((57344 ||| x).toInt64), .int (nI 2)]) (rest := []) ⟨hx, hb, hml, hown, hts⟩ (c_Writer_putNumber l D s.heap.size cB w tp a q0 ss la nx se pi ct tw ck pid w0 tot T0 B ((57344 ||| x).toInt64) 2 hq0 htot hT hpid hw0 (by (try simp only [List.length_append, bs_len, List.length_nil, ph_len]); omega) (by omega) (by omega)) (z_cV hN wd_988 wd_85 wd_985 hd_Writer_putNumber rfl rfl ⟨Nat.le_of_ble_eq_true rfl, Nat.le_of_ble_eq_true rfl⟩ wd_987 wd_23) (z_preVm (va_recv (ci := 10) (q0 := 0) hK hP rfl rfl) hPc hKc hN hDc) rfl rfl hl.1 rfl (lv_room (Nat.le_of_ble_eq_true rfl)) d_Writer_putPid_7 ⟨Nat.le_of_ble_eq_true rfl, Nat.le_of_ble_eq_true rfl⟩) hS (fun q _ h => hFc q h) hFc (fun q7 t H locs ht hvm e7 hB hz1 hk1 hS => ?_)
  obtain ⟨hP1, hK1, hD1⟩ := hB
  rw [ht] at hP1
  obtain ⟨hP, hD⟩ := va_join (wr := []) (w1 := [(w, .inr (10, [.ref tp, .ref la, .int q7.2.2.1, .int q7.2.2.2.1, .int q7.2.2.2.2.1, .int ss])), (la, .inr (1, [.int (nI pid), va_rf nx, .int ct, .int tw, .long ck, .int q7.2.2.2.2.2, va_rf se, va_rf pi])), (tp, .inr (0, [.ref a, .int q7.2.1])), (a, .inl (cB, 9400, .inl q7.1))]) hP hD [0, 1, 2, 3] [] rfl rfl (by decide) (by decide) hk1 hFc hP1 hD1
  clear hk1 hP1 hD1 hFc hPc hDc hz1
  have hP : va_P D classes [(w, .inr (10, [.ref tp, .ref la, .int q7.2.2.1, .int q7.2.2.2.1, .int q7.2.2.2.2.1, .int ss])), (la, .inr (1, [.int (nI pid), va_rf nx, .int ct, .int tw, .long ck, .int q7.2.2.2.2.2, va_rf se, va_rf pi])), (tp, .inr (0, [.ref a, .int q7.2.1])), (a, .inl (cB, 9400, .inl q7.1))] H := hP
  have hD : va_D A [(w, .inr (10, [.ref tp, .ref la, .int q7.2.2.1, .int q7.2.2.2.1, .int q7.2.2.2.2.1, .int ss])), (la, .inr (1, [.int (nI pid), va_rf nx, .int ct, .int tw, .long ck, .int q7.2.2.2.2.2, va_rf se, va_rf pi])), (tp, .inr (0, [.ref a, .int q7.2.1])), (a, .inl (cB, 9400, .inl q7.1))] := hD
  have hP9 := hP.sub (ws' := [(w, .inr (10, [.ref tp, .ref la, .int q7.2.2.1, .int q7.2.2.2.1, .int q7.2.2.2.2.1, .int ss])), (la, .inr (1, [.int (nI pid), va_rf nx, .int ct, .int tw, .long ck, .int q7.2.2.2.2.2, va_rf se, va_rf pi])), (tp, .inr (0, [.ref a, .int q7.2.1])), (a, .inl (cB, 9400, .inl q7.1))]) [0, 1, 2, 3] rfl
  have hD9 := hD.sub (ws' := [(w, .inr (10, [.ref tp, .ref la, .int q7.2.2.1, .int q7.2.2.2.1, .int q7.2.2.2.2.1, .int ss])), (la, .inr (1, [.int (nI pid), va_rf nx, .int ct, .int tw, .long ck, .int q7.2.2.2.2.2, va_rf se, va_rf pi])), (tp, .inr (0, [.ref a, .int q7.2.1])), (a, .inl (cB, 9400, .inl q7.1))]) [0, 1, 2, 3] (by decide) rfl
  have hK9 := hK.sub (tys' := [(cB, .byte)]) [0] rfl
  exact W.vret hx hb hr (fun t ht hW => ⟨⟨q7, rfl, (by have hz := e7; simpa only [List.append_assoc, List.nil_append] using hz), ⟨by rw [ht]; exact hP9, va_K.moved hW.alike hK9, hD9⟩⟩, hS.F ht⟩) hS.2.2 d_Writer_putPid_10
set_option maxHeartbeats 4000000 in
set_option maxRecDepth 100000 in
theorem c_Writer_putNoMore (l : Launch) (D : va_G) (sz : Nat) (cB : ClassId) (w tp a : Nat) (q0 : WQ) (ss : Int32) (la : Nat) (nx se pi : Option Nat) (ct tw : Int32) (ck : Int64) (pid w0 tot : Nat) (T0 B : List Int32) (hq0 : WS pid w0 tot T0 B q0) (htot : tot ≤ 4100) (hT : T0.length + 188 * ((tot + 183) / 184) ≤ 9400) (hpid : pid < 8192) (hw0 : w0 < 2 ^ 29) (hB : B.length + 2 ≤ tot) : Met l y_Writer_putNoMore [Cond.code y_Writer_putNoMore b_Writer_putNoMore 1 none] ({ frames := 3, cells := 0, slots := 0, locals := 67 }) (zM [.ref w] D [(w, .inr (10, [.ref tp, .ref la, .int q0.2.2.1, .int q0.2.2.2.1, .int q0.2.2.2.2.1, .int ss])), (la, .inr (1, [.int (nI pid), va_rf nx, .int ct, .int tw, .long ck, .int q0.2.2.2.2.2, va_rf se, va_rf pi])), (tp, .inr (0, [.ref a, .int q0.2.1])), (a, .inl (cB, 9400, .inl q0.1))] [(cB, .byte)] sz) (va_Qv (fun (u : WQ) => WS pid w0 tot T0 (B ++ bsL 61440 2) u) (fun (u : WQ) t => zW D (va_A [(w, .inr (10, [.ref tp, .ref la, .int q0.2.2.1, .int q0.2.2.2.1, .int q0.2.2.2.2.1, .int ss])), (la, .inr (1, [.int (nI pid), va_rf nx, .int ct, .int tw, .long ck, .int q0.2.2.2.2.2, va_rf se, va_rf pi])), (tp, .inr (0, [.ref a, .int q0.2.1])), (a, .inl (cB, 9400, .inl q0.1))] sz) [(w, .inr (10, [.ref tp, .ref la, .int u.2.2.1, .int u.2.2.2.1, .int u.2.2.2.2.1, .int ss])), (la, .inr (1, [.int (nI pid), va_rf nx, .int ct, .int tw, .long ck, .int u.2.2.2.2.2, va_rf se, va_rf pi])), (tp, .inr (0, [.ref a, .int u.2.1])), (a, .inl (cB, 9400, .inl u.1))] [(cB, .byte)] t) (va_A [(w, .inr (10, [.ref tp, .ref la, .int q0.2.2.1, .int q0.2.2.2.1, .int q0.2.2.2.2.1, .int ss])), (la, .inr (1, [.int (nI pid), va_rf nx, .int ct, .int tw, .long ck, .int q0.2.2.2.2.2, va_rf se, va_rf pi])), (tp, .inr (0, [.ref a, .int q0.2.1])), (a, .inl (cB, 9400, .inl q0.1))] sz)) 0 0 (va_A [(w, .inr (10, [.ref tp, .ref la, .int q0.2.2.1, .int q0.2.2.2.1, .int q0.2.2.2.2.1, .int ss])), (la, .inr (1, [.int (nI pid), va_rf nx, .int ct, .int tw, .long ck, .int q0.2.2.2.2.2, va_rf se, va_rf pi])), (tp, .inr (0, [.ref a, .int q0.2.1])), (a, .inl (cB, 9400, .inl q0.1))] sz) := by
  refine Met.ofW (cc := b_Writer_putNoMore) (maxL := 1) (ret := none) (by decide) rfl ?_
  intro p e s m args below meth cd s₁ Bd hml hv
  obtain ⟨rfl, hsz, hP, hK, hN, hD0⟩ := hv
  have hx := Bd.exec
  have hb := Bd.bytes
  have hr := Bd.returns
  have hts := hN.use (a := ([.ref w]).toArray)
  have hown : s.vm.findClass R_Writer = some m.cls := findClass_of_methodNamed Bd.named
  have hlocks := Bd.notSynchronized
  subst hsz
  have hD := hD0.self (sz := s.heap.size)
  clear hD0
  have hA : ∀ q : Nat, s.heap.size ≤ q → va_A [(w, .inr (10, [.ref tp, .ref la, .int q0.2.2.1, .int q0.2.2.2.1, .int q0.2.2.2.2.1, .int ss])), (la, .inr (1, [.int (nI pid), va_rf nx, .int ct, .int tw, .long ck, .int q0.2.2.2.2.2, va_rf se, va_rf pi])), (tp, .inr (0, [.ref a, .int q0.2.1])), (a, .inl (cB, 9400, .inl q0.1))] s.heap.size q := fun q h => Or.inr h
  have hS : va_S (va_A [(w, .inr (10, [.ref tp, .ref la, .int q0.2.2.1, .int q0.2.2.2.1, .int q0.2.2.2.2.1, .int ss])), (la, .inr (1, [.int (nI pid), va_rf nx, .int ct, .int tw, .long ck, .int q0.2.2.2.2.2, va_rf se, va_rf pi])), (tp, .inr (0, [.ref a, .int q0.2.1])), (a, .inl (cB, 9400, .inl q0.1))] s.heap.size) s.heap s.heap [] := va_S.rf
  generalize hAe : va_A [(w, .inr (10, [.ref tp, .ref la, .int q0.2.2.1, .int q0.2.2.2.1, .int q0.2.2.2.2.1, .int ss])), (la, .inr (1, [.int (nI pid), va_rf nx, .int ct, .int tw, .long ck, .int q0.2.2.2.2.2, va_rf se, va_rf pi])), (tp, .inr (0, [.ref a, .int q0.2.1])), (a, .inl (cB, 9400, .inl q0.1))] s.heap.size = A at hD hA hS ⊢
  have hP : va_P D classes [(w, .inr (10, [.ref tp, .ref la, .int q0.2.2.1, .int q0.2.2.2.1, .int q0.2.2.2.2.1, .int ss])), (la, .inr (1, [.int (nI pid), va_rf nx, .int ct, .int tw, .long ck, .int q0.2.2.2.2.2, va_rf se, va_rf pi])), (tp, .inr (0, [.ref a, .int q0.2.1])), (a, .inl (cB, 9400, .inl q0.1))] s.heap := hP
  have hl := lv_entry ([.ref w]) (n := 1) (Nat.le_of_ble_eq_true rfl)
  rw [lg_entry_eq]
  generalize (lg_sl ([.ref w]) ++ List.replicate (1 - (lg_sl ([.ref w])).length) Slot.unset).toArray = ls at hl ⊢
  have hl : lv_has ls 1 [(0, .ref w)] := hl
  refine lv_aload_n hx hb d_Writer_putNoMore_0 rfl (lv_at hl 0 rfl) ?_
  refine lv_ldc2 hx hb hown (hts _ wd_1028) d_Writer_putNoMore_1 ?_
  refine lv_iconst (v := 2) hx hb d_Writer_putNoMore_4 (by decide) ?_
  have hPc := hP.sub (ws' := [(w, .inr (10, [.ref tp, .ref la, .int q0.2.2.1, .int q0.2.2.2.1, .int q0.2.2.2.2.1, .int ss])), (la, .inr (1, [.int (nI pid), va_rf nx, .int ct, .int tw, .long ck, .int q0.2.2.2.2.2, va_rf se, va_rf pi])), (tp, .inr (0, [.ref a, .int q0.2.1])), (a, .inl (cB, 9400, .inl q0.1))]) [0, 1, 2, 3] rfl
  have hKc := hK.sub (tys' := [(cB, .byte)]) [0] rfl
  have hDc := hD.sub (ws' := [(w, .inr (10, [.ref tp, .ref la, .int q0.2.2.1, .int q0.2.2.2.1, .int q0.2.2.2.2.1, .int ss])), (la, .inr (1, [.int (nI pid), va_rf nx, .int ct, .int tw, .long ck, .int q0.2.2.2.2.2, va_rf se, va_rf pi])), (tp, .inr (0, [.ref a, .int q0.2.1])), (a, .inl (cB, 9400, .inl q0.1))]) [0, 1, 2, 3] (by decide) rfl
  have hFc := va_free (wc := [(w, .inr (10, [.ref tp, .ref la, .int q0.2.2.1, .int q0.2.2.2.1, .int q0.2.2.2.2.1, .int ss])), (la, .inr (1, [.int (nI pid), va_rf nx, .int ct, .int tw, .long ck, .int q0.2.2.2.2.2, va_rf se, va_rf pi])), (tp, .inr (0, [.ref a, .int q0.2.1])), (a, .inl (cB, 9400, .inl q0.1))]) hD hS hA [0, 1, 2, 3] rfl
  refine va_callv (va_runV (As := [.long 61440, .int (nI 2)]) (rest := []) ⟨hx, hb, hml, hown, hts⟩ (c_Writer_putNumber l D s.heap.size cB w tp a q0 ss la nx se pi ct tw ck pid w0 tot T0 B 61440 2 hq0 htot hT hpid hw0 (by (try simp only [List.length_append, bs_len, List.length_nil, ph_len]); omega) (by omega) (by omega)) (z_cV hN wd_988 wd_85 wd_985 hd_Writer_putNumber rfl rfl ⟨Nat.le_of_ble_eq_true rfl, Nat.le_of_ble_eq_true rfl⟩ wd_987 wd_23) (z_preVm (va_recv (ci := 10) (q0 := 0) hK hP rfl rfl) hPc hKc hN hDc) rfl rfl hl.1 rfl (lv_room (Nat.le_of_ble_eq_true rfl)) d_Writer_putNoMore_5 ⟨Nat.le_of_ble_eq_true rfl, Nat.le_of_ble_eq_true rfl⟩) hS (fun q _ h => hFc q h) hFc (fun q5 t H locs ht hvm e5 hB hz1 hk1 hS => ?_)
  obtain ⟨hP1, hK1, hD1⟩ := hB
  rw [ht] at hP1
  obtain ⟨hP, hD⟩ := va_join (wr := []) (w1 := [(w, .inr (10, [.ref tp, .ref la, .int q5.2.2.1, .int q5.2.2.2.1, .int q5.2.2.2.2.1, .int ss])), (la, .inr (1, [.int (nI pid), va_rf nx, .int ct, .int tw, .long ck, .int q5.2.2.2.2.2, va_rf se, va_rf pi])), (tp, .inr (0, [.ref a, .int q5.2.1])), (a, .inl (cB, 9400, .inl q5.1))]) hP hD [0, 1, 2, 3] [] rfl rfl (by decide) (by decide) hk1 hFc hP1 hD1
  clear hk1 hP1 hD1 hFc hPc hDc hz1
  have hP : va_P D classes [(w, .inr (10, [.ref tp, .ref la, .int q5.2.2.1, .int q5.2.2.2.1, .int q5.2.2.2.2.1, .int ss])), (la, .inr (1, [.int (nI pid), va_rf nx, .int ct, .int tw, .long ck, .int q5.2.2.2.2.2, va_rf se, va_rf pi])), (tp, .inr (0, [.ref a, .int q5.2.1])), (a, .inl (cB, 9400, .inl q5.1))] H := hP
  have hD : va_D A [(w, .inr (10, [.ref tp, .ref la, .int q5.2.2.1, .int q5.2.2.2.1, .int q5.2.2.2.2.1, .int ss])), (la, .inr (1, [.int (nI pid), va_rf nx, .int ct, .int tw, .long ck, .int q5.2.2.2.2.2, va_rf se, va_rf pi])), (tp, .inr (0, [.ref a, .int q5.2.1])), (a, .inl (cB, 9400, .inl q5.1))] := hD
  have hP9 := hP.sub (ws' := [(w, .inr (10, [.ref tp, .ref la, .int q5.2.2.1, .int q5.2.2.2.1, .int q5.2.2.2.2.1, .int ss])), (la, .inr (1, [.int (nI pid), va_rf nx, .int ct, .int tw, .long ck, .int q5.2.2.2.2.2, va_rf se, va_rf pi])), (tp, .inr (0, [.ref a, .int q5.2.1])), (a, .inl (cB, 9400, .inl q5.1))]) [0, 1, 2, 3] rfl
  have hD9 := hD.sub (ws' := [(w, .inr (10, [.ref tp, .ref la, .int q5.2.2.1, .int q5.2.2.2.1, .int q5.2.2.2.2.1, .int ss])), (la, .inr (1, [.int (nI pid), va_rf nx, .int ct, .int tw, .long ck, .int q5.2.2.2.2.2, va_rf se, va_rf pi])), (tp, .inr (0, [.ref a, .int q5.2.1])), (a, .inl (cB, 9400, .inl q5.1))]) [0, 1, 2, 3] (by decide) rfl
  have hK9 := hK.sub (tys' := [(cB, .byte)]) [0] rfl
  exact W.vret hx hb hr (fun t ht hW => ⟨⟨q5, rfl, (by have hz := e5; simpa only [List.append_assoc, List.nil_append] using hz), ⟨by rw [ht]; exact hP9, va_K.moved hW.alike hK9, hD9⟩⟩, hS.F ht⟩) hS.2.2 d_Writer_putNoMore_8
set_option maxHeartbeats 4000000 in
set_option maxRecDepth 100000 in
theorem c_Writer_putFlagAndTime (l : Launch) (D : va_G) (sz : Nat) (cB : ClassId) (w tp a : Nat) (q0 : WQ) (ss : Int32) (la : Nat) (nx se pi : Option Nat) (ct tw : Int32) (ck : Int64) (pid w0 tot : Nat) (T0 B : List Int32) (fl : Int32) (t0 : Int64) (hq0 : WS pid w0 tot T0 B q0) (htot : tot ≤ 4100) (hT : T0.length + 188 * ((tot + 183) / 184) ≤ 9400) (hpid : pid < 8192) (hw0 : w0 < 2 ^ 29) (hB : B.length + 5 ≤ tot) : Met l y_Writer_putFlagAndTime [Cond.code y_Writer_putFlagAndTime b_Writer_putFlagAndTime 4 none] ({ frames := 3, cells := 0, slots := 0, locals := 67 }) (zM [.ref w, .int fl, .long t0] D [(w, .inr (10, [.ref tp, .ref la, .int q0.2.2.1, .int q0.2.2.2.1, .int q0.2.2.2.2.1, .int ss])), (la, .inr (1, [.int (nI pid), va_rf nx, .int ct, .int tw, .long ck, .int q0.2.2.2.2.2, va_rf se, va_rf pi])), (tp, .inr (0, [.ref a, .int q0.2.1])), (a, .inl (cB, 9400, .inl q0.1))] [(cB, .byte)] sz) (va_Qv (fun (u : WQ) => WS pid w0 tot T0 (B ++ bsL (ftV fl t0) 5) u) (fun (u : WQ) t => zW D (va_A [(w, .inr (10, [.ref tp, .ref la, .int q0.2.2.1, .int q0.2.2.2.1, .int q0.2.2.2.2.1, .int ss])), (la, .inr (1, [.int (nI pid), va_rf nx, .int ct, .int tw, .long ck, .int q0.2.2.2.2.2, va_rf se, va_rf pi])), (tp, .inr (0, [.ref a, .int q0.2.1])), (a, .inl (cB, 9400, .inl q0.1))] sz) [(w, .inr (10, [.ref tp, .ref la, .int u.2.2.1, .int u.2.2.2.1, .int u.2.2.2.2.1, .int ss])), (la, .inr (1, [.int (nI pid), va_rf nx, .int ct, .int tw, .long ck, .int u.2.2.2.2.2, va_rf se, va_rf pi])), (tp, .inr (0, [.ref a, .int u.2.1])), (a, .inl (cB, 9400, .inl u.1))] [(cB, .byte)] t) (va_A [(w, .inr (10, [.ref tp, .ref la, .int q0.2.2.1, .int q0.2.2.2.1, .int q0.2.2.2.2.1, .int ss])), (la, .inr (1, [.int (nI pid), va_rf nx, .int ct, .int tw, .long ck, .int q0.2.2.2.2.2, va_rf se, va_rf pi])), (tp, .inr (0, [.ref a, .int q0.2.1])), (a, .inl (cB, 9400, .inl q0.1))] sz)) 0 0 (va_A [(w, .inr (10, [.ref tp, .ref la, .int q0.2.2.1, .int q0.2.2.2.1, .int q0.2.2.2.2.1, .int ss])), (la, .inr (1, [.int (nI pid), va_rf nx, .int ct, .int tw, .long ck, .int q0.2.2.2.2.2, va_rf se, va_rf pi])), (tp, .inr (0, [.ref a, .int q0.2.1])), (a, .inl (cB, 9400, .inl q0.1))] sz) := by
  refine Met.ofW (cc := b_Writer_putFlagAndTime) (maxL := 4) (ret := none) (by decide) rfl ?_
  intro p e s m args below meth cd s₁ Bd hml hv
  obtain ⟨rfl, hsz, hP, hK, hN, hD0⟩ := hv
  have hx := Bd.exec
  have hb := Bd.bytes
  have hr := Bd.returns
  have hts := hN.use (a := ([.ref w, .int fl, .long t0]).toArray)
  have hown : s.vm.findClass R_Writer = some m.cls := findClass_of_methodNamed Bd.named
  have hlocks := Bd.notSynchronized
  subst hsz
  have hD := hD0.self (sz := s.heap.size)
  clear hD0
  have hA : ∀ q : Nat, s.heap.size ≤ q → va_A [(w, .inr (10, [.ref tp, .ref la, .int q0.2.2.1, .int q0.2.2.2.1, .int q0.2.2.2.2.1, .int ss])), (la, .inr (1, [.int (nI pid), va_rf nx, .int ct, .int tw, .long ck, .int q0.2.2.2.2.2, va_rf se, va_rf pi])), (tp, .inr (0, [.ref a, .int q0.2.1])), (a, .inl (cB, 9400, .inl q0.1))] s.heap.size q := fun q h => Or.inr h
  have hS : va_S (va_A [(w, .inr (10, [.ref tp, .ref la, .int q0.2.2.1, .int q0.2.2.2.1, .int q0.2.2.2.2.1, .int ss])), (la, .inr (1, [.int (nI pid), va_rf nx, .int ct, .int tw, .long ck, .int q0.2.2.2.2.2, va_rf se, va_rf pi])), (tp, .inr (0, [.ref a, .int q0.2.1])), (a, .inl (cB, 9400, .inl q0.1))] s.heap.size) s.heap s.heap [] := va_S.rf
  generalize hAe : va_A [(w, .inr (10, [.ref tp, .ref la, .int q0.2.2.1, .int q0.2.2.2.1, .int q0.2.2.2.2.1, .int ss])), (la, .inr (1, [.int (nI pid), va_rf nx, .int ct, .int tw, .long ck, .int q0.2.2.2.2.2, va_rf se, va_rf pi])), (tp, .inr (0, [.ref a, .int q0.2.1])), (a, .inl (cB, 9400, .inl q0.1))] s.heap.size = A at hD hA hS ⊢
  have hP : va_P D classes [(w, .inr (10, [.ref tp, .ref la, .int q0.2.2.1, .int q0.2.2.2.1, .int q0.2.2.2.2.1, .int ss])), (la, .inr (1, [.int (nI pid), va_rf nx, .int ct, .int tw, .long ck, .int q0.2.2.2.2.2, va_rf se, va_rf pi])), (tp, .inr (0, [.ref a, .int q0.2.1])), (a, .inl (cB, 9400, .inl q0.1))] s.heap := hP
  have hl := lv_entry ([.ref w, .int fl, .long t0]) (n := 4) (Nat.le_of_ble_eq_true rfl)
  rw [lg_entry_eq]
  generalize (lg_sl ([.ref w, .int fl, .long t0]) ++ List.replicate (4 - (lg_sl ([.ref w, .int fl, .long t0])).length) Slot.unset).toArray = ls at hl ⊢
  have hl : lv_has ls 4 [(0, .ref w), (1, .int fl), (2, .long t0)] := hl
  refine lv_aload_n hx hb d_Writer_putFlagAndTime_0 rfl (lv_at hl 0 rfl) ?_
  refine lv_iload_n hx hb d_Writer_putFlagAndTime_1 rfl (lv_at hl 1 rfl) ?_
  suffices key2 : W p l e ({ frames := 3, cells := 0, slots := 0, locals := 67 }) s m ([.ref w, .int fl, .long t0]).toArray below meth cd s.heap [] 0 0 (MQ below (va_Qv (fun (u : WQ) => WS pid w0 tot T0 (B ++ bsL (ftV fl t0) 5) u) (fun (u : WQ) t => zW D (A) [(w, .inr (10, [.ref tp, .ref la, .int u.2.2.1, .int u.2.2.2.1, .int u.2.2.2.2.1, .int ss])), (la, .inr (1, [.int (nI pid), va_rf nx, .int ct, .int tw, .long ck, .int u.2.2.2.2.2, va_rf se, va_rf pi])), (tp, .inr (0, [.ref a, .int u.2.1])), (a, .inl (cB, 9400, .inl u.1))] [(cB, .byte)] t) (A)) ([.ref w, .int fl, .long t0]).toArray s 0 0 (A)) (F0 m 12 ls [.long (if fl = 0 then 0 else 549755813888), .ref w]) by
    refine lv_if_eq (tgt := 11) hx hb d_Writer_putFlagAndTime_2 rfl (fun h2 => ?_) (fun h2 => ?_)
    · refine lv_lconst (v := 0) hx hb d_Writer_putFlagAndTime_11 (by decide) ?_
      refine z_topl (w := (if fl = 0 then 0 else 549755813888)) ((if_pos h2).symm) ?_
      exact key2
    · refine lv_ldc2 hx hb hown (hts _ wd_1070) d_Writer_putFlagAndTime_5 ?_
      refine lv_goto (tgt := 12) hx hb d_Writer_putFlagAndTime_8 rfl ?_
      refine z_topl (w := (if fl = 0 then 0 else 549755813888)) ((if_neg h2).symm) ?_
      exact key2
  refine lv_ldc2 hx hb hown (hts _ wd_1071) d_Writer_putFlagAndTime_12 ?_
  refine lv_lor hx hb d_Writer_putFlagAndTime_15 ?_
  refine lv_lload_n hx hb d_Writer_putFlagAndTime_16 rfl (lv_at hl 2 rfl) ?_
  refine lv_lor hx hb d_Writer_putFlagAndTime_17 ?_
  refine z_topl (w := ftV fl t0) rfl ?_
  refine lv_iconst (v := 5) hx hb d_Writer_putFlagAndTime_18 (by decide) ?_
  have hPc := hP.sub (ws' := [(w, .inr (10, [.ref tp, .ref la, .int q0.2.2.1, .int q0.2.2.2.1, .int q0.2.2.2.2.1, .int ss])), (la, .inr (1, [.int (nI pid), va_rf nx, .int ct, .int tw, .long ck, .int q0.2.2.2.2.2, va_rf se, va_rf pi])), (tp, .inr (0, [.ref a, .int q0.2.1])), (a, .inl (cB, 9400, .inl q0.1))]) [0, 1, 2, 3] rfl
  have hKc := hK.sub (tys' := [(cB, .byte)]) [0] rfl
  have hDc := hD.sub (ws' := [(w, .inr (10, [.ref tp, .ref la, .int q0.2.2.1, .int q0.2.2.2.1, .int q0.2.2.2.2.1, .int ss])), (la, .inr (1, [.int (nI pid), va_rf nx, .int ct, .int tw, .long ck, .int q0.2.2.2.2.2, va_rf se, va_rf pi])), (tp, .inr (0, [.ref a, .int q0.2.1])), (a, .inl (cB, 9400, .inl q0.1))]) [0, 1, 2, 3] (by decide) rfl
  have hFc := va_free (wc := [(w, .inr (10, [.ref tp, .ref la, .int q0.2.2.1, .int q0.2.2.2.1, .int q0.2.2.2.2.1, .int ss])), (la, .inr (1, [.int (nI pid), va_rf nx, .int ct, .int tw, .long ck, .int q0.2.2.2.2.2, va_rf se, va_rf pi])), (tp, .inr (0, [.ref a, .int q0.2.1])), (a, .inl (cB, 9400, .inl q0.1))]) hD hS hA [0, 1, 2, 3] rfl
  refine va_callv (va_runV (As := [.long (ftV fl t0), .int (nI 5)]) (rest := []) ⟨hx, hb, hml, hown, hts⟩ (c_Writer_putNumber l D s.heap.size cB w tp a q0 ss la nx se pi ct tw ck pid w0 tot T0 B (ftV fl t0) 5 hq0 htot hT hpid hw0 (by (try simp only [List.length_append, bs_len, List.length_nil, ph_len]); omega) (by omega) (by omega)) (z_cV hN wd_988 wd_85 wd_985 hd_Writer_putNumber rfl rfl ⟨Nat.le_of_ble_eq_true rfl, Nat.le_of_ble_eq_true rfl⟩ wd_987 wd_23) (z_preVm (va_recv (ci := 10) (q0 := 0) hK hP rfl rfl) hPc hKc hN hDc) rfl rfl hl.1 rfl (lv_room (Nat.le_of_ble_eq_true rfl)) d_Writer_putFlagAndTime_19 ⟨Nat.le_of_ble_eq_true rfl, Nat.le_of_ble_eq_true rfl⟩) hS (fun q _ h => hFc q h) hFc (fun q19 t H locs ht hvm e19 hB hz1 hk1 hS => ?_)
  obtain ⟨hP1, hK1, hD1⟩ := hB
  rw [ht] at hP1
  obtain ⟨hP, hD⟩ := va_join (wr := []) (w1 := [(w, .inr (10, [.ref tp, .ref la, .int q19.2.2.1, .int q19.2.2.2.1, .int q19.2.2.2.2.1, .int ss])), (la, .inr (1, [.int (nI pid), va_rf nx, .int ct, .int tw, .long ck, .int q19.2.2.2.2.2, va_rf se, va_rf pi])), (tp, .inr (0, [.ref a, .int q19.2.1])), (a, .inl (cB, 9400, .inl q19.1))]) hP hD [0, 1, 2, 3] [] rfl rfl (by decide) (by decide) hk1 hFc hP1 hD1
  clear hk1 hP1 hD1 hFc hPc hDc hz1
  have hP : va_P D classes [(w, .inr (10, [.ref tp, .ref la, .int q19.2.2.1, .int q19.2.2.2.1, .int q19.2.2.2.2.1, .int ss])), (la, .inr (1, [.int (nI pid), va_rf nx, .int ct, .int tw, .long ck, .int q19.2.2.2.2.2, va_rf se, va_rf pi])), (tp, .inr (0, [.ref a, .int q19.2.1])), (a, .inl (cB, 9400, .inl q19.1))] H := hP
  have hD : va_D A [(w, .inr (10, [.ref tp, .ref la, .int q19.2.2.1, .int q19.2.2.2.1, .int q19.2.2.2.2.1, .int ss])), (la, .inr (1, [.int (nI pid), va_rf nx, .int ct, .int tw, .long ck, .int q19.2.2.2.2.2, va_rf se, va_rf pi])), (tp, .inr (0, [.ref a, .int q19.2.1])), (a, .inl (cB, 9400, .inl q19.1))] := hD
  have hP9 := hP.sub (ws' := [(w, .inr (10, [.ref tp, .ref la, .int q19.2.2.1, .int q19.2.2.2.1, .int q19.2.2.2.2.1, .int ss])), (la, .inr (1, [.int (nI pid), va_rf nx, .int ct, .int tw, .long ck, .int q19.2.2.2.2.2, va_rf se, va_rf pi])), (tp, .inr (0, [.ref a, .int q19.2.1])), (a, .inl (cB, 9400, .inl q19.1))]) [0, 1, 2, 3] rfl
  have hD9 := hD.sub (ws' := [(w, .inr (10, [.ref tp, .ref la, .int q19.2.2.1, .int q19.2.2.2.1, .int q19.2.2.2.2.1, .int ss])), (la, .inr (1, [.int (nI pid), va_rf nx, .int ct, .int tw, .long ck, .int q19.2.2.2.2.2, va_rf se, va_rf pi])), (tp, .inr (0, [.ref a, .int q19.2.1])), (a, .inl (cB, 9400, .inl q19.1))]) [0, 1, 2, 3] (by decide) rfl
  have hK9 := hK.sub (tys' := [(cB, .byte)]) [0] rfl
  exact W.vret hx hb hr (fun t ht hW => ⟨⟨q19, rfl, (by have hz := e19; simpa only [List.append_assoc, List.nil_append] using hz), ⟨by rw [ht]; exact hP9, va_K.moved hW.alike hK9, hD9⟩⟩, hS.F ht⟩) hS.2.2 d_Writer_putFlagAndTime_22
set_option maxHeartbeats 4000000 in
set_option maxRecDepth 100000 in
theorem c_Writer_putPieceHead (l : Launch) (D : va_G) (sz : Nat) (cB : ClassId) (w tp a : Nat) (q0 : WQ) (ss : Int32) (la : Nat) (nx se pi : Option Nat) (ct tw : Int32) (ck : Int64) (pid w0 tot : Nat) (T0 B : List Int32) (kd : Int32) (t0 : Int64) (ts : Int32) (hq0 : WS pid w0 tot T0 B q0) (htot : tot ≤ 4100) (hT : T0.length + 188 * ((tot + 183) / 184) ≤ 9400) (hpid : pid < 8192) (hw0 : w0 < 2 ^ 29) (hB : B.length + (if t0 < 0 then 9 else 14) ≤ tot) : Met l y_Writer_putPieceHead [Cond.code y_Writer_putPieceHead b_Writer_putPieceHead 5 none] ({ frames := 3, cells := 0, slots := 0, locals := 67 }) (zM [.ref w, .int kd, .long t0, .int ts] D [(w, .inr (10, [.ref tp, .ref la, .int q0.2.2.1, .int q0.2.2.2.1, .int q0.2.2.2.2.1, .int ss])), (la, .inr (1, [.int (nI pid), va_rf nx, .int ct, .int tw, .long ck, .int q0.2.2.2.2.2, va_rf se, va_rf pi])), (tp, .inr (0, [.ref a, .int q0.2.1])), (a, .inl (cB, 9400, .inl q0.1))] [(cB, .byte)] sz) (va_Qv (fun (u : WQ) => WS pid w0 tot T0 (B ++ phL kd t0 ts) u) (fun (u : WQ) t => zW D (va_A [(w, .inr (10, [.ref tp, .ref la, .int q0.2.2.1, .int q0.2.2.2.1, .int q0.2.2.2.2.1, .int ss])), (la, .inr (1, [.int (nI pid), va_rf nx, .int ct, .int tw, .long ck, .int q0.2.2.2.2.2, va_rf se, va_rf pi])), (tp, .inr (0, [.ref a, .int q0.2.1])), (a, .inl (cB, 9400, .inl q0.1))] sz) [(w, .inr (10, [.ref tp, .ref la, .int u.2.2.1, .int u.2.2.2.1, .int u.2.2.2.2.1, .int ss])), (la, .inr (1, [.int (nI pid), va_rf nx, .int ct, .int tw, .long ck, .int u.2.2.2.2.2, va_rf se, va_rf pi])), (tp, .inr (0, [.ref a, .int u.2.1])), (a, .inl (cB, 9400, .inl u.1))] [(cB, .byte)] t) (va_A [(w, .inr (10, [.ref tp, .ref la, .int q0.2.2.1, .int q0.2.2.2.1, .int q0.2.2.2.2.1, .int ss])), (la, .inr (1, [.int (nI pid), va_rf nx, .int ct, .int tw, .long ck, .int q0.2.2.2.2.2, va_rf se, va_rf pi])), (tp, .inr (0, [.ref a, .int q0.2.1])), (a, .inl (cB, 9400, .inl q0.1))] sz)) 0 0 (va_A [(w, .inr (10, [.ref tp, .ref la, .int q0.2.2.1, .int q0.2.2.2.1, .int q0.2.2.2.2.1, .int ss])), (la, .inr (1, [.int (nI pid), va_rf nx, .int ct, .int tw, .long ck, .int q0.2.2.2.2.2, va_rf se, va_rf pi])), (tp, .inr (0, [.ref a, .int q0.2.1])), (a, .inl (cB, 9400, .inl q0.1))] sz) := by
  refine Met.ofW (cc := b_Writer_putPieceHead) (maxL := 5) (ret := none) (by decide) rfl ?_
  intro p e s m args below meth cd s₁ Bd hml hv
  obtain ⟨rfl, hsz, hP, hK, hN, hD0⟩ := hv
  have hx := Bd.exec
  have hb := Bd.bytes
  have hr := Bd.returns
  have hts := hN.use (a := ([.ref w, .int kd, .long t0, .int ts]).toArray)
  have hown : s.vm.findClass R_Writer = some m.cls := findClass_of_methodNamed Bd.named
  have hlocks := Bd.notSynchronized
  subst hsz
  have hD := hD0.self (sz := s.heap.size)
  clear hD0
  have hA : ∀ q : Nat, s.heap.size ≤ q → va_A [(w, .inr (10, [.ref tp, .ref la, .int q0.2.2.1, .int q0.2.2.2.1, .int q0.2.2.2.2.1, .int ss])), (la, .inr (1, [.int (nI pid), va_rf nx, .int ct, .int tw, .long ck, .int q0.2.2.2.2.2, va_rf se, va_rf pi])), (tp, .inr (0, [.ref a, .int q0.2.1])), (a, .inl (cB, 9400, .inl q0.1))] s.heap.size q := fun q h => Or.inr h
  have hS : va_S (va_A [(w, .inr (10, [.ref tp, .ref la, .int q0.2.2.1, .int q0.2.2.2.1, .int q0.2.2.2.2.1, .int ss])), (la, .inr (1, [.int (nI pid), va_rf nx, .int ct, .int tw, .long ck, .int q0.2.2.2.2.2, va_rf se, va_rf pi])), (tp, .inr (0, [.ref a, .int q0.2.1])), (a, .inl (cB, 9400, .inl q0.1))] s.heap.size) s.heap s.heap [] := va_S.rf
  generalize hAe : va_A [(w, .inr (10, [.ref tp, .ref la, .int q0.2.2.1, .int q0.2.2.2.1, .int q0.2.2.2.2.1, .int ss])), (la, .inr (1, [.int (nI pid), va_rf nx, .int ct, .int tw, .long ck, .int q0.2.2.2.2.2, va_rf se, va_rf pi])), (tp, .inr (0, [.ref a, .int q0.2.1])), (a, .inl (cB, 9400, .inl q0.1))] s.heap.size = A at hD hA hS ⊢
  have hP : va_P D classes [(w, .inr (10, [.ref tp, .ref la, .int q0.2.2.1, .int q0.2.2.2.1, .int q0.2.2.2.2.1, .int ss])), (la, .inr (1, [.int (nI pid), va_rf nx, .int ct, .int tw, .long ck, .int q0.2.2.2.2.2, va_rf se, va_rf pi])), (tp, .inr (0, [.ref a, .int q0.2.1])), (a, .inl (cB, 9400, .inl q0.1))] s.heap := hP
  have hl := lv_entry ([.ref w, .int kd, .long t0, .int ts]) (n := 5) (Nat.le_of_ble_eq_true rfl)
  rw [lg_entry_eq]
  generalize (lg_sl ([.ref w, .int kd, .long t0, .int ts]) ++ List.replicate (5 - (lg_sl ([.ref w, .int kd, .long t0, .int ts])).length) Slot.unset).toArray = ls at hl ⊢
  have hl : lv_has ls 5 [(0, .ref w), (1, .int kd), (2, .long t0), (4, .int ts)] := hl
  have hB9 : B.length + 9 ≤ tot := by by_cases c9 : t0 < 0 <;> simp only [c9, if_true, if_false] at hB <;> omega
  refine lv_aload_n hx hb d_Writer_putPieceHead_0 rfl (lv_at hl 0 rfl) ?_
  refine lv_lconst (v := 1) hx hb d_Writer_putPieceHead_1 (by decide) ?_
  refine lv_iconst (v := 3) hx hb d_Writer_putPieceHead_2 (by decide) ?_
  have hPc := hP.sub (ws' := [(w, .inr (10, [.ref tp, .ref la, .int q0.2.2.1, .int q0.2.2.2.1, .int q0.2.2.2.2.1, .int ss])), (la, .inr (1, [.int (nI pid), va_rf nx, .int ct, .int tw, .long ck, .int q0.2.2.2.2.2, va_rf se, va_rf pi])), (tp, .inr (0, [.ref a, .int q0.2.1])), (a, .inl (cB, 9400, .inl q0.1))]) [0, 1, 2, 3] rfl
  have hKc := hK.sub (tys' := [(cB, .byte)]) [0] rfl
  have hDc := hD.sub (ws' := [(w, .inr (10, [.ref tp, .ref la, .int q0.2.2.1, .int q0.2.2.2.1, .int q0.2.2.2.2.1, .int ss])), (la, .inr (1, [.int (nI pid), va_rf nx, .int ct, .int tw, .long ck, .int q0.2.2.2.2.2, va_rf se, va_rf pi])), (tp, .inr (0, [.ref a, .int q0.2.1])), (a, .inl (cB, 9400, .inl q0.1))]) [0, 1, 2, 3] (by decide) rfl
  have hFc := va_free (wc := [(w, .inr (10, [.ref tp, .ref la, .int q0.2.2.1, .int q0.2.2.2.1, .int q0.2.2.2.2.1, .int ss])), (la, .inr (1, [.int (nI pid), va_rf nx, .int ct, .int tw, .long ck, .int q0.2.2.2.2.2, va_rf se, va_rf pi])), (tp, .inr (0, [.ref a, .int q0.2.1])), (a, .inl (cB, 9400, .inl q0.1))]) hD hS hA [0, 1, 2, 3] rfl
  refine va_callv (va_runV (As := [.long 1, .int (nI 3)]) (rest := []) ⟨hx, hb, hml, hown, hts⟩ (c_Writer_putNumber l D s.heap.size cB w tp a q0 ss la nx se pi ct tw ck pid w0 tot T0 B 1 3 hq0 htot hT hpid hw0 (by (try simp only [List.length_append, bs_len, List.length_nil, ph_len]); omega) (by omega) (by omega)) (z_cV hN wd_988 wd_85 wd_985 hd_Writer_putNumber rfl rfl ⟨Nat.le_of_ble_eq_true rfl, Nat.le_of_ble_eq_true rfl⟩ wd_987 wd_23) (z_preVm (va_recv (ci := 10) (q0 := 0) hK hP rfl rfl) hPc hKc hN hDc) rfl rfl hl.1 rfl (lv_room (Nat.le_of_ble_eq_true rfl)) d_Writer_putPieceHead_3 ⟨Nat.le_of_ble_eq_true rfl, Nat.le_of_ble_eq_true rfl⟩) hS (fun q _ h => hFc q h) hFc (fun q3 t H locs ht hvm e3 hB hz1 hk1 hS => ?_)
  obtain ⟨hP1, hK1, hD1⟩ := hB
  rw [ht] at hP1
  obtain ⟨hP, hD⟩ := va_join (wr := []) (w1 := [(w, .inr (10, [.ref tp, .ref la, .int q3.2.2.1, .int q3.2.2.2.1, .int q3.2.2.2.2.1, .int ss])), (la, .inr (1, [.int (nI pid), va_rf nx, .int ct, .int tw, .long ck, .int q3.2.2.2.2.2, va_rf se, va_rf pi])), (tp, .inr (0, [.ref a, .int q3.2.1])), (a, .inl (cB, 9400, .inl q3.1))]) hP hD [0, 1, 2, 3] [] rfl rfl (by decide) (by decide) hk1 hFc hP1 hD1
  clear hk1 hP1 hD1 hFc hPc hDc hz1
  have hP : va_P D classes [(w, .inr (10, [.ref tp, .ref la, .int q3.2.2.1, .int q3.2.2.2.1, .int q3.2.2.2.2.1, .int ss])), (la, .inr (1, [.int (nI pid), va_rf nx, .int ct, .int tw, .long ck, .int q3.2.2.2.2.2, va_rf se, va_rf pi])), (tp, .inr (0, [.ref a, .int q3.2.1])), (a, .inl (cB, 9400, .inl q3.1))] H := hP
  have hD : va_D A [(w, .inr (10, [.ref tp, .ref la, .int q3.2.2.1, .int q3.2.2.2.1, .int q3.2.2.2.2.1, .int ss])), (la, .inr (1, [.int (nI pid), va_rf nx, .int ct, .int tw, .long ck, .int q3.2.2.2.2.2, va_rf se, va_rf pi])), (tp, .inr (0, [.ref a, .int q3.2.1])), (a, .inl (cB, 9400, .inl q3.1))] := hD
  refine lv_aload_n hx hb d_Writer_putPieceHead_6 rfl (lv_at hl 0 rfl) ?_
  refine lv_iload_n hx hb d_Writer_putPieceHead_7 rfl (lv_at hl 1 rfl) ?_
  refine lv_i2l (v := kd.toInt64) hx hb d_Writer_putPieceHead_8 rfl ?_
  refine lv_iconst (v := 1) hx hb d_Writer_putPieceHead_9 (by decide) ?_
  have hPc := hP.sub (ws' := [(w, .inr (10, [.ref tp, .ref la, .int q3.2.2.1, .int q3.2.2.2.1, .int q3.2.2.2.2.1, .int ss])), (la, .inr (1, [.int (nI pid), va_rf nx, .int ct, .int tw, .long ck, .int q3.2.2.2.2.2, va_rf se, va_rf pi])), (tp, .inr (0, [.ref a, .int q3.2.1])), (a, .inl (cB, 9400, .inl q3.1))]) [0, 1, 2, 3] rfl
  have hKc := hK.sub (tys' := [(cB, .byte)]) [0] rfl
  have hDc := hD.sub (ws' := [(w, .inr (10, [.ref tp, .ref la, .int q3.2.2.1, .int q3.2.2.2.1, .int q3.2.2.2.2.1, .int ss])), (la, .inr (1, [.int (nI pid), va_rf nx, .int ct, .int tw, .long ck, .int q3.2.2.2.2.2, va_rf se, va_rf pi])), (tp, .inr (0, [.ref a, .int q3.2.1])), (a, .inl (cB, 9400, .inl q3.1))]) [0, 1, 2, 3] (by decide) rfl
  have hFc := va_free (wc := [(w, .inr (10, [.ref tp, .ref la, .int q3.2.2.1, .int q3.2.2.2.1, .int q3.2.2.2.2.1, .int ss])), (la, .inr (1, [.int (nI pid), va_rf nx, .int ct, .int tw, .long ck, .int q3.2.2.2.2.2, va_rf se, va_rf pi])), (tp, .inr (0, [.ref a, .int q3.2.1])), (a, .inl (cB, 9400, .inl q3.1))]) hD hS hA [0, 1, 2, 3] rfl
  refine va_callv (va_runV (As := [.long kd.toInt64, .int (nI 1)]) (rest := []) ⟨hx, hb, hml, hown, hts⟩ (c_Writer_putNumber l D H.size cB w tp a q3 ss la nx se pi ct tw ck pid w0 tot T0 (B ++ bsL 1 3) kd.toInt64 1 e3 htot hT hpid hw0 (by (try simp only [List.length_append, bs_len, List.length_nil, ph_len]); omega) (by omega) (by omega)) (z_cV hN wd_988 wd_85 wd_985 hd_Writer_putNumber rfl rfl ⟨Nat.le_of_ble_eq_true rfl, Nat.le_of_ble_eq_true rfl⟩ wd_987 wd_23) (z_preVm (va_recv (ci := 10) (q0 := 0) hK hP rfl rfl) hPc hKc hN hDc) rfl rfl hl.1 rfl (lv_room (Nat.le_of_ble_eq_true rfl)) d_Writer_putPieceHead_10 ⟨Nat.le_of_ble_eq_true rfl, Nat.le_of_ble_eq_true rfl⟩) hS (fun q _ h => hFc q h) hFc (fun q10 t H locs ht hvm e10 hB hz1 hk1 hS => ?_)
  obtain ⟨hP1, hK1, hD1⟩ := hB
  rw [ht] at hP1
  obtain ⟨hP, hD⟩ := va_join (wr := []) (w1 := [(w, .inr (10, [.ref tp, .ref la, .int q10.2.2.1, .int q10.2.2.2.1, .int q10.2.2.2.2.1, .int ss])), (la, .inr (1, [.int (nI pid), va_rf nx, .int ct, .int tw, .long ck, .int q10.2.2.2.2.2, va_rf se, va_rf pi])), (tp, .inr (0, [.ref a, .int q10.2.1])), (a, .inl (cB, 9400, .inl q10.1))]) hP hD [0, 1, 2, 3] [] rfl rfl (by decide) (by decide) hk1 hFc hP1 hD1
  clear hk1 hP1 hD1 hFc hPc hDc hz1
  have hP : va_P D classes [(w, .inr (10, [.ref tp, .ref la, .int q10.2.2.1, .int q10.2.2.2.1, .int q10.2.2.2.2.1, .int ss])), (la, .inr (1, [.int (nI pid), va_rf nx, .int ct, .int tw, .long ck, .int q10.2.2.2.2.2, va_rf se, va_rf pi])), (tp, .inr (0, [.ref a, .int q10.2.1])), (a, .inl (cB, 9400, .inl q10.1))] H := hP
  have hD : va_D A [(w, .inr (10, [.ref tp, .ref la, .int q10.2.2.1, .int q10.2.2.2.1, .int q10.2.2.2.2.1, .int ss])), (la, .inr (1, [.int (nI pid), va_rf nx, .int ct, .int tw, .long ck, .int q10.2.2.2.2.2, va_rf se, va_rf pi])), (tp, .inr (0, [.ref a, .int q10.2.1])), (a, .inl (cB, 9400, .inl q10.1))] := hD
  refine lv_aload_n hx hb d_Writer_putPieceHead_13 rfl (lv_at hl 0 rfl) ?_
  refine lv_iload hx hb d_Writer_putPieceHead_14 (lv_at hl 3 rfl) ?_
  refine lv_i2l (v := ts.toInt64) hx hb d_Writer_putPieceHead_16 rfl ?_
  refine lv_iconst (v := 2) hx hb d_Writer_putPieceHead_17 (by decide) ?_
  have hPc := hP.sub (ws' := [(w, .inr (10, [.ref tp, .ref la, .int q10.2.2.1, .int q10.2.2.2.1, .int q10.2.2.2.2.1, .int ss])), (la, .inr (1, [.int (nI pid), va_rf nx, .int ct, .int tw, .long ck, .int q10.2.2.2.2.2, va_rf se, va_rf pi])), (tp, .inr (0, [.ref a, .int q10.2.1])), (a, .inl (cB, 9400, .inl q10.1))]) [0, 1, 2, 3] rfl
  have hKc := hK.sub (tys' := [(cB, .byte)]) [0] rfl
  have hDc := hD.sub (ws' := [(w, .inr (10, [.ref tp, .ref la, .int q10.2.2.1, .int q10.2.2.2.1, .int q10.2.2.2.2.1, .int ss])), (la, .inr (1, [.int (nI pid), va_rf nx, .int ct, .int tw, .long ck, .int q10.2.2.2.2.2, va_rf se, va_rf pi])), (tp, .inr (0, [.ref a, .int q10.2.1])), (a, .inl (cB, 9400, .inl q10.1))]) [0, 1, 2, 3] (by decide) rfl
  have hFc := va_free (wc := [(w, .inr (10, [.ref tp, .ref la, .int q10.2.2.1, .int q10.2.2.2.1, .int q10.2.2.2.2.1, .int ss])), (la, .inr (1, [.int (nI pid), va_rf nx, .int ct, .int tw, .long ck, .int q10.2.2.2.2.2, va_rf se, va_rf pi])), (tp, .inr (0, [.ref a, .int q10.2.1])), (a, .inl (cB, 9400, .inl q10.1))]) hD hS hA [0, 1, 2, 3] rfl
  refine va_callv (va_runV (As := [.long ts.toInt64, .int (nI 2)]) (rest := []) ⟨hx, hb, hml, hown, hts⟩ (c_Writer_putNumber l D H.size cB w tp a q10 ss la nx se pi ct tw ck pid w0 tot T0 ((B ++ bsL 1 3) ++ bsL kd.toInt64 1) ts.toInt64 2 e10 htot hT hpid hw0 (by (try simp only [List.length_append, bs_len, List.length_nil, ph_len]); omega) (by omega) (by omega)) (z_cV hN wd_988 wd_85 wd_985 hd_Writer_putNumber rfl rfl ⟨Nat.le_of_ble_eq_true rfl, Nat.le_of_ble_eq_true rfl⟩ wd_987 wd_23) (z_preVm (va_recv (ci := 10) (q0 := 0) hK hP rfl rfl) hPc hKc hN hDc) rfl rfl hl.1 rfl (lv_room (Nat.le_of_ble_eq_true rfl)) d_Writer_putPieceHead_18 ⟨Nat.le_of_ble_eq_true rfl, Nat.le_of_ble_eq_true rfl⟩) hS (fun q _ h => hFc q h) hFc (fun q18 t H locs ht hvm e18 hB hz1 hk1 hS => ?_)
  obtain ⟨hP1, hK1, hD1⟩ := hB
  rw [ht] at hP1
  obtain ⟨hP, hD⟩ := va_join (wr := []) (w1 := [(w, .inr (10, [.ref tp, .ref la, .int q18.2.2.1, .int q18.2.2.2.1, .int q18.2.2.2.2.1, .int ss])), (la, .inr (1, [.int (nI pid), va_rf nx, .int ct, .int tw, .long ck, .int q18.2.2.2.2.2, va_rf se, va_rf pi])), (tp, .inr (0, [.ref a, .int q18.2.1])), (a, .inl (cB, 9400, .inl q18.1))]) hP hD [0, 1, 2, 3] [] rfl rfl (by decide) (by decide) hk1 hFc hP1 hD1
  clear hk1 hP1 hD1 hFc hPc hDc hz1
  have hP : va_P D classes [(w, .inr (10, [.ref tp, .ref la, .int q18.2.2.1, .int q18.2.2.2.1, .int q18.2.2.2.2.1, .int ss])), (la, .inr (1, [.int (nI pid), va_rf nx, .int ct, .int tw, .long ck, .int q18.2.2.2.2.2, va_rf se, va_rf pi])), (tp, .inr (0, [.ref a, .int q18.2.1])), (a, .inl (cB, 9400, .inl q18.1))] H := hP
  have hD : va_D A [(w, .inr (10, [.ref tp, .ref la, .int q18.2.2.1, .int q18.2.2.2.1, .int q18.2.2.2.2.1, .int ss])), (la, .inr (1, [.int (nI pid), va_rf nx, .int ct, .int tw, .long ck, .int q18.2.2.2.2.2, va_rf se, va_rf pi])), (tp, .inr (0, [.ref a, .int q18.2.1])), (a, .inl (cB, 9400, .inl q18.1))] := hD
  refine lv_aload_n hx hb d_Writer_putPieceHead_21 rfl (lv_at hl 0 rfl) ?_
  refine lv_ldc2 hx hb hown (hts _ wd_1044) d_Writer_putPieceHead_22 ?_
  refine lv_iconst (v := 1) hx hb d_Writer_putPieceHead_25 (by decide) ?_
  have hPc := hP.sub (ws' := [(w, .inr (10, [.ref tp, .ref la, .int q18.2.2.1, .int q18.2.2.2.1, .int q18.2.2.2.2.1, .int ss])), (la, .inr (1, [.int (nI pid), va_rf nx, .int ct, .int tw, .long ck, .int q18.2.2.2.2.2, va_rf se, va_rf pi])), (tp, .inr (0, [.ref a, .int q18.2.1])), (a, .inl (cB, 9400, .inl q18.1))]) [0, 1, 2, 3] rfl
  have hKc := hK.sub (tys' := [(cB, .byte)]) [0] rfl
  have hDc := hD.sub (ws' := [(w, .inr (10, [.ref tp, .ref la, .int q18.2.2.1, .int q18.2.2.2.1, .int q18.2.2.2.2.1, .int ss])), (la, .inr (1, [.int (nI pid), va_rf nx, .int ct, .int tw, .long ck, .int q18.2.2.2.2.2, va_rf se, va_rf pi])), (tp, .inr (0, [.ref a, .int q18.2.1])), (a, .inl (cB, 9400, .inl q18.1))]) [0, 1, 2, 3] (by decide) rfl
  have hFc := va_free (wc := [(w, .inr (10, [.ref tp, .ref la, .int q18.2.2.1, .int q18.2.2.2.1, .int q18.2.2.2.2.1, .int ss])), (la, .inr (1, [.int (nI pid), va_rf nx, .int ct, .int tw, .long ck, .int q18.2.2.2.2.2, va_rf se, va_rf pi])), (tp, .inr (0, [.ref a, .int q18.2.1])), (a, .inl (cB, 9400, .inl q18.1))]) hD hS hA [0, 1, 2, 3] rfl
  refine va_callv (va_runV (As := [.long 128, .int (nI 1)]) (rest := []) ⟨hx, hb, hml, hown, hts⟩ (c_Writer_putNumber l D H.size cB w tp a q18 ss la nx se pi ct tw ck pid w0 tot T0 (((B ++ bsL 1 3) ++ bsL kd.toInt64 1) ++ bsL ts.toInt64 2) 128 1 e18 htot hT hpid hw0 (by (try simp only [List.length_append, bs_len, List.length_nil, ph_len]); omega) (by omega) (by omega)) (z_cV hN wd_988 wd_85 wd_985 hd_Writer_putNumber rfl rfl ⟨Nat.le_of_ble_eq_true rfl, Nat.le_of_ble_eq_true rfl⟩ wd_987 wd_23) (z_preVm (va_recv (ci := 10) (q0 := 0) hK hP rfl rfl) hPc hKc hN hDc) rfl rfl hl.1 rfl (lv_room (Nat.le_of_ble_eq_true rfl)) d_Writer_putPieceHead_26 ⟨Nat.le_of_ble_eq_true rfl, Nat.le_of_ble_eq_true rfl⟩) hS (fun q _ h => hFc q h) hFc (fun q26 t H locs ht hvm e26 hB hz1 hk1 hS => ?_)
  obtain ⟨hP1, hK1, hD1⟩ := hB
  rw [ht] at hP1
  obtain ⟨hP, hD⟩ := va_join (wr := []) (w1 := [(w, .inr (10, [.ref tp, .ref la, .int q26.2.2.1, .int q26.2.2.2.1, .int q26.2.2.2.2.1, .int ss])), (la, .inr (1, [.int (nI pid), va_rf nx, .int ct, .int tw, .long ck, .int q26.2.2.2.2.2, va_rf se, va_rf pi])), (tp, .inr (0, [.ref a, .int q26.2.1])), (a, .inl (cB, 9400, .inl q26.1))]) hP hD [0, 1, 2, 3] [] rfl rfl (by decide) (by decide) hk1 hFc hP1 hD1
  clear hk1 hP1 hD1 hFc hPc hDc hz1
  have hP : va_P D classes [(w, .inr (10, [.ref tp, .ref la, .int q26.2.2.1, .int q26.2.2.2.1, .int q26.2.2.2.2.1, .int ss])), (la, .inr (1, [.int (nI pid), va_rf nx, .int ct, .int tw, .long ck, .int q26.2.2.2.2.2, va_rf se, va_rf pi])), (tp, .inr (0, [.ref a, .int q26.2.1])), (a, .inl (cB, 9400, .inl q26.1))] H := hP
  have hD : va_D A [(w, .inr (10, [.ref tp, .ref la, .int q26.2.2.1, .int q26.2.2.2.1, .int q26.2.2.2.2.1, .int ss])), (la, .inr (1, [.int (nI pid), va_rf nx, .int ct, .int tw, .long ck, .int q26.2.2.2.2.2, va_rf se, va_rf pi])), (tp, .inr (0, [.ref a, .int q26.2.1])), (a, .inl (cB, 9400, .inl q26.1))] := hD
  refine lv_lload_n hx hb d_Writer_putPieceHead_29 rfl (lv_at hl 2 rfl) ?_
  refine lv_lconst (v := 0) hx hb d_Writer_putPieceHead_30 (by decide) ?_
  refine W.lcmp hx hb d_Writer_putPieceHead_31 ?_
  refine lv_if_ge (tgt := 42) hx hb d_Writer_putPieceHead_32 rfl (fun h32 => ?_) (fun h32 => ?_)
  · have h32 := (lg_cmp_ge _ _).mp h32
    have h32 : ¬ t0 < 0 := Int64.not_lt.mpr h32
    rw [if_neg h32] at hB
    refine lv_aload_n hx hb d_Writer_putPieceHead_42 rfl (lv_at hl 0 rfl) ?_
    refine lv_ldc2 hx hb hown (hts _ wd_1045) d_Writer_putPieceHead_43 ?_
    refine lv_iconst (v := 2) hx hb d_Writer_putPieceHead_46 (by decide) ?_
    have hPc := hP.sub (ws' := [(w, .inr (10, [.ref tp, .ref la, .int q26.2.2.1, .int q26.2.2.2.1, .int q26.2.2.2.2.1, .int ss])), (la, .inr (1, [.int (nI pid), va_rf nx, .int ct, .int tw, .long ck, .int q26.2.2.2.2.2, va_rf se, va_rf pi])), (tp, .inr (0, [.ref a, .int q26.2.1])), (a, .inl (cB, 9400, .inl q26.1))]) [0, 1, 2, 3] rfl
    have hKc := hK.sub (tys' := [(cB, .byte)]) [0] rfl
    have hDc := hD.sub (ws' := [(w, .inr (10, [.ref tp, .ref la, .int q26.2.2.1, .int q26.2.2.2.1, .int q26.2.2.2.2.1, .int ss])), (la, .inr (1, [.int (nI pid), va_rf nx, .int ct, .int tw, .long ck, .int q26.2.2.2.2.2, va_rf se, va_rf pi])), (tp, .inr (0, [.ref a, .int q26.2.1])), (a, .inl (cB, 9400, .inl q26.1))]) [0, 1, 2, 3] (by decide) rfl
    have hFc := va_free (wc := [(w, .inr (10, [.ref tp, .ref la, .int q26.2.2.1, .int q26.2.2.2.1, .int q26.2.2.2.2.1, .int ss])), (la, .inr (1, [.int (nI pid), va_rf nx, .int ct, .int tw, .long ck, .int q26.2.2.2.2.2, va_rf se, va_rf pi])), (tp, .inr (0, [.ref a, .int q26.2.1])), (a, .inl (cB, 9400, .inl q26.1))]) hD hS hA [0, 1, 2, 3] rfl
    refine va_callv (va_runV (As := [.long 32773, .int (nI 2)]) (rest := []) ⟨hx, hb, hml, hown, hts⟩ (c_Writer_putNumber l D H.size cB w tp a q26 ss la nx se pi ct tw ck pid w0 tot T0 ((((B ++ bsL 1 3) ++ bsL kd.toInt64 1) ++ bsL ts.toInt64 2) ++ bsL 128 1) 32773 2 e26 htot hT hpid hw0 (by (try simp only [List.length_append, bs_len, List.length_nil, ph_len]); omega) (by omega) (by omega)) (z_cV hN wd_988 wd_85 wd_985 hd_Writer_putNumber rfl rfl ⟨Nat.le_of_ble_eq_true rfl, Nat.le_of_ble_eq_true rfl⟩ wd_987 wd_23) (z_preVm (va_recv (ci := 10) (q0 := 0) hK hP rfl rfl) hPc hKc hN hDc) rfl rfl hl.1 rfl (lv_room (Nat.le_of_ble_eq_true rfl)) d_Writer_putPieceHead_47 ⟨Nat.le_of_ble_eq_true rfl, Nat.le_of_ble_eq_true rfl⟩) hS (fun q _ h => hFc q h) hFc (fun q47 t H locs ht hvm e47 hB hz1 hk1 hS => ?_)
    obtain ⟨hP1, hK1, hD1⟩ := hB
    rw [ht] at hP1
    obtain ⟨hP, hD⟩ := va_join (wr := []) (w1 := [(w, .inr (10, [.ref tp, .ref la, .int q47.2.2.1, .int q47.2.2.2.1, .int q47.2.2.2.2.1, .int ss])), (la, .inr (1, [.int (nI pid), va_rf nx, .int ct, .int tw, .long ck, .int q47.2.2.2.2.2, va_rf se, va_rf pi])), (tp, .inr (0, [.ref a, .int q47.2.1])), (a, .inl (cB, 9400, .inl q47.1))]) hP hD [0, 1, 2, 3] [] rfl rfl (by decide) (by decide) hk1 hFc hP1 hD1
    clear hk1 hP1 hD1 hFc hPc hDc hz1
    have hP : va_P D classes [(w, .inr (10, [.ref tp, .ref la, .int q47.2.2.1, .int q47.2.2.2.1, .int q47.2.2.2.2.1, .int ss])), (la, .inr (1, [.int (nI pid), va_rf nx, .int ct, .int tw, .long ck, .int q47.2.2.2.2.2, va_rf se, va_rf pi])), (tp, .inr (0, [.ref a, .int q47.2.1])), (a, .inl (cB, 9400, .inl q47.1))] H := hP
    have hD : va_D A [(w, .inr (10, [.ref tp, .ref la, .int q47.2.2.1, .int q47.2.2.2.1, .int q47.2.2.2.2.1, .int ss])), (la, .inr (1, [.int (nI pid), va_rf nx, .int ct, .int tw, .long ck, .int q47.2.2.2.2.2, va_rf se, va_rf pi])), (tp, .inr (0, [.ref a, .int q47.2.1])), (a, .inl (cB, 9400, .inl q47.1))] := hD
    refine lv_aload_n hx hb d_Writer_putPieceHead_50 rfl (lv_at hl 0 rfl) ?_
    refine lv_ldc2 hx hb hown (hts _ wd_1046) d_Writer_putPieceHead_51 ?_
    refine lv_lload_n hx hb d_Writer_putPieceHead_54 rfl (lv_at hl 2 rfl) ?_
    refine lv_bipush (v := 30) hx hb d_Writer_putPieceHead_55 (by decide) ?_
    refine lv_lshr (v := t0 >>> ((30 : Int32).toInt64 &&& 63)) hx hb d_Writer_putPieceHead_57 rfl ?_
    refine lv_iconst (v := 1) hx hb d_Writer_putPieceHead_58 (by decide) ?_
    refine lv_lshl (v := (t0 >>> ((30 : Int32).toInt64 &&& 63)) <<< ((1 : Int32).toInt64 &&& 63)) hx hb d_Writer_putPieceHead_59 rfl ?_
    refine lv_lor hx hb d_Writer_putPieceHead_60 ?_
    refine lv_lconst (v := 1) hx hb d_Writer_putPieceHead_61 (by decide) ?_
    refine lv_lor hx hb d_Writer_putPieceHead_62 ?_
    refine lv_iconst (v := 1) hx hb d_Writer_putPieceHead_63 (by decide) ?_
    have hPc := hP.sub (ws' := [(w, .inr (10, [.ref tp, .ref la, .int q47.2.2.1, .int q47.2.2.2.1, .int q47.2.2.2.2.1, .int ss])), (la, .inr (1, [.int (nI pid), va_rf nx, .int ct, .int tw, .long ck, .int q47.2.2.2.2.2, va_rf se, va_rf pi])), (tp, .inr (0, [.ref a, .int q47.2.1])), (a, .inl (cB, 9400, .inl q47.1))]) [0, 1, 2, 3] rfl
    have hKc := hK.sub (tys' := [(cB, .byte)]) [0] rfl
    have hDc := hD.sub (ws' := [(w, .inr (10, [.ref tp, .ref la, .int q47.2.2.1, .int q47.2.2.2.1, .int q47.2.2.2.2.1, .int ss])), (la, .inr (1, [.int (nI pid), va_rf nx, .int ct, .int tw, .long ck, .int q47.2.2.2.2.2, va_rf se, va_rf pi])), (tp, .inr (0, [.ref a, .int q47.2.1])), (a, .inl (cB, 9400, .inl q47.1))]) [0, 1, 2, 3] (by decide) rfl
    have hFc := va_free (wc := [(w, .inr (10, [.ref tp, .ref la, .int q47.2.2.1, .int q47.2.2.2.1, .int q47.2.2.2.2.1, .int ss])), (la, .inr (1, [.int (nI pid), va_rf nx, .int ct, .int tw, .long ck, .int q47.2.2.2.2.2, va_rf se, va_rf pi])), (tp, .inr (0, [.ref a, .int q47.2.1])), (a, .inl (cB, 9400, .inl q47.1))]) hD hS hA [0, 1, 2, 3] rfl
    refine va_callv (va_runV (As := [.long ((32 ||| ((t0 >>> ((30 : Int32).toInt64 &&& 63)) <<< ((1 : Int32).toInt64 &&& 63))) ||| 1), .int (nI 1)]) (rest := []) ⟨hx, hb, hml, hown, hts⟩ (c_Writer_putNumber l D H.size cB w tp a q47 ss la nx se pi ct tw ck pid w0 tot T0 (((((B ++ bsL 1 3) ++ bsL kd.toInt64 1) ++ bsL ts.toInt64 2) ++ bsL 128 1) ++ bsL 32773 2) ((32 ||| ((t0 >>> ((30 : Int32).toInt64 &&& 63)) <<< ((1 : Int32).toInt64 &&& 63))) ||| 1) 1 e47 htot hT hpid hw0 (by (try simp only [List.length_append, bs_len, List.length_nil, ph_len]); omega) (by omega) (by omega)) (z_cV hN wd_988 wd_85 wd_985 hd_Writer_putNumber rfl rfl ⟨Nat.le_of_ble_eq_true rfl, Nat.le_of_ble_eq_true rfl⟩ wd_987 wd_23) (z_preVm (va_recv (ci := 10) (q0 := 0) hK hP rfl rfl) hPc hKc hN hDc) rfl rfl hl.1 rfl (lv_room (Nat.le_of_ble_eq_true rfl)) d_Writer_putPieceHead_64 ⟨Nat.le_of_ble_eq_true rfl, Nat.le_of_ble_eq_true rfl⟩) hS (fun q _ h => hFc q h) hFc (fun q64 t H locs ht hvm e64 hB hz1 hk1 hS => ?_)
    obtain ⟨hP1, hK1, hD1⟩ := hB
    rw [ht] at hP1
    obtain ⟨hP, hD⟩ := va_join (wr := []) (w1 := [(w, .inr (10, [.ref tp, .ref la, .int q64.2.2.1, .int q64.2.2.2.1, .int q64.2.2.2.2.1, .int ss])), (la, .inr (1, [.int (nI pid), va_rf nx, .int ct, .int tw, .long ck, .int q64.2.2.2.2.2, va_rf se, va_rf pi])), (tp, .inr (0, [.ref a, .int q64.2.1])), (a, .inl (cB, 9400, .inl q64.1))]) hP hD [0, 1, 2, 3] [] rfl rfl (by decide) (by decide) hk1 hFc hP1 hD1
    clear hk1 hP1 hD1 hFc hPc hDc hz1
    have hP : va_P D classes [(w, .inr (10, [.ref tp, .ref la, .int q64.2.2.1, .int q64.2.2.2.1, .int q64.2.2.2.2.1, .int ss])), (la, .inr (1, [.int (nI pid), va_rf nx, .int ct, .int tw, .long ck, .int q64.2.2.2.2.2, va_rf se, va_rf pi])), (tp, .inr (0, [.ref a, .int q64.2.1])), (a, .inl (cB, 9400, .inl q64.1))] H := hP
    have hD : va_D A [(w, .inr (10, [.ref tp, .ref la, .int q64.2.2.1, .int q64.2.2.2.1, .int q64.2.2.2.2.1, .int ss])), (la, .inr (1, [.int (nI pid), va_rf nx, .int ct, .int tw, .long ck, .int q64.2.2.2.2.2, va_rf se, va_rf pi])), (tp, .inr (0, [.ref a, .int q64.2.1])), (a, .inl (cB, 9400, .inl q64.1))] := hD
    refine lv_aload_n hx hb d_Writer_putPieceHead_67 rfl (lv_at hl 0 rfl) ?_
    refine lv_lload_n hx hb d_Writer_putPieceHead_68 rfl (lv_at hl 2 rfl) ?_
    refine lv_bipush (v := 15) hx hb d_Writer_putPieceHead_69 (by decide) ?_
    refine lv_lshr (v := t0 >>> ((15 : Int32).toInt64 &&& 63)) hx hb d_Writer_putPieceHead_71 rfl ?_
    refine lv_ldc2 hx hb hown (hts _ wd_1047) d_Writer_putPieceHead_72 ?_
    refine lv_land hx hb d_Writer_putPieceHead_75 ?_
    refine lv_iconst (v := 1) hx hb d_Writer_putPieceHead_76 (by decide) ?_
    refine lv_lshl (v := ((t0 >>> ((15 : Int32).toInt64 &&& 63)) &&& 32767) <<< ((1 : Int32).toInt64 &&& 63)) hx hb d_Writer_putPieceHead_77 rfl ?_
    refine lv_lconst (v := 1) hx hb d_Writer_putPieceHead_78 (by decide) ?_
    refine lv_lor hx hb d_Writer_putPieceHead_79 ?_
    refine lv_iconst (v := 2) hx hb d_Writer_putPieceHead_80 (by decide) ?_
    have hPc := hP.sub (ws' := [(w, .inr (10, [.ref tp, .ref la, .int q64.2.2.1, .int q64.2.2.2.1, .int q64.2.2.2.2.1, .int ss])), (la, .inr (1, [.int (nI pid), va_rf nx, .int ct, .int tw, .long ck, .int q64.2.2.2.2.2, va_rf se, va_rf pi])), (tp, .inr (0, [.ref a, .int q64.2.1])), (a, .inl (cB, 9400, .inl q64.1))]) [0, 1, 2, 3] rfl
    have hKc := hK.sub (tys' := [(cB, .byte)]) [0] rfl
    have hDc := hD.sub (ws' := [(w, .inr (10, [.ref tp, .ref la, .int q64.2.2.1, .int q64.2.2.2.1, .int q64.2.2.2.2.1, .int ss])), (la, .inr (1, [.int (nI pid), va_rf nx, .int ct, .int tw, .long ck, .int q64.2.2.2.2.2, va_rf se, va_rf pi])), (tp, .inr (0, [.ref a, .int q64.2.1])), (a, .inl (cB, 9400, .inl q64.1))]) [0, 1, 2, 3] (by decide) rfl
    have hFc := va_free (wc := [(w, .inr (10, [.ref tp, .ref la, .int q64.2.2.1, .int q64.2.2.2.1, .int q64.2.2.2.2.1, .int ss])), (la, .inr (1, [.int (nI pid), va_rf nx, .int ct, .int tw, .long ck, .int q64.2.2.2.2.2, va_rf se, va_rf pi])), (tp, .inr (0, [.ref a, .int q64.2.1])), (a, .inl (cB, 9400, .inl q64.1))]) hD hS hA [0, 1, 2, 3] rfl
    refine va_callv (va_runV (As := [.long ((((t0 >>> ((15 : Int32).toInt64 &&& 63)) &&& 32767) <<< ((1 : Int32).toInt64 &&& 63)) ||| 1), .int (nI 2)]) (rest := []) ⟨hx, hb, hml, hown, hts⟩ (c_Writer_putNumber l D H.size cB w tp a q64 ss la nx se pi ct tw ck pid w0 tot T0 ((((((B ++ bsL 1 3) ++ bsL kd.toInt64 1) ++ bsL ts.toInt64 2) ++ bsL 128 1) ++ bsL 32773 2) ++ bsL ((32 ||| ((t0 >>> ((30 : Int32).toInt64 &&& 63)) <<< ((1 : Int32).toInt64 &&& 63))) ||| 1) 1) ((((t0 >>> ((15 : Int32).toInt64 &&& 63)) &&& 32767) <<< ((1 : Int32).toInt64 &&& 63)) ||| 1) 2 e64 htot hT hpid hw0 (by (try simp only [List.length_append, bs_len, List.length_nil, ph_len]); omega) (by omega) (by omega)) (z_cV hN wd_988 wd_85 wd_985 hd_Writer_putNumber rfl rfl ⟨Nat.le_of_ble_eq_true rfl, Nat.le_of_ble_eq_true rfl⟩ wd_987 wd_23) (z_preVm (va_recv (ci := 10) (q0 := 0) hK hP rfl rfl) hPc hKc hN hDc) rfl rfl hl.1 rfl (lv_room (Nat.le_of_ble_eq_true rfl)) d_Writer_putPieceHead_81 ⟨Nat.le_of_ble_eq_true rfl, Nat.le_of_ble_eq_true rfl⟩) hS (fun q _ h => hFc q h) hFc (fun q81 t H locs ht hvm e81 hB hz1 hk1 hS => ?_)
    obtain ⟨hP1, hK1, hD1⟩ := hB
    rw [ht] at hP1
    obtain ⟨hP, hD⟩ := va_join (wr := []) (w1 := [(w, .inr (10, [.ref tp, .ref la, .int q81.2.2.1, .int q81.2.2.2.1, .int q81.2.2.2.2.1, .int ss])), (la, .inr (1, [.int (nI pid), va_rf nx, .int ct, .int tw, .long ck, .int q81.2.2.2.2.2, va_rf se, va_rf pi])), (tp, .inr (0, [.ref a, .int q81.2.1])), (a, .inl (cB, 9400, .inl q81.1))]) hP hD [0, 1, 2, 3] [] rfl rfl (by decide) (by decide) hk1 hFc hP1 hD1
    clear hk1 hP1 hD1 hFc hPc hDc hz1
    have hP : va_P D classes [(w, .inr (10, [.ref tp, .ref la, .int q81.2.2.1, .int q81.2.2.2.1, .int q81.2.2.2.2.1, .int ss])), (la, .inr (1, [.int (nI pid), va_rf nx, .int ct, .int tw, .long ck, .int q81.2.2.2.2.2, va_rf se, va_rf pi])), (tp, .inr (0, [.ref a, .int q81.2.1])), (a, .inl (cB, 9400, .inl q81.1))] H := hP
    have hD : va_D A [(w, .inr (10, [.ref tp, .ref la, .int q81.2.2.1, .int q81.2.2.2.1, .int q81.2.2.2.2.1, .int ss])), (la, .inr (1, [.int (nI pid), va_rf nx, .int ct, .int tw, .long ck, .int q81.2.2.2.2.2, va_rf se, va_rf pi])), (tp, .inr (0, [.ref a, .int q81.2.1])), (a, .inl (cB, 9400, .inl q81.1))] := hD
    refine lv_aload_n hx hb d_Writer_putPieceHead_84 rfl (lv_at hl 0 rfl) ?_
    refine lv_lload_n hx hb d_Writer_putPieceHead_85 rfl (lv_at hl 2 rfl) ?_
    refine lv_ldc2 hx hb hown (hts _ wd_1047) d_Writer_putPieceHead_86 ?_
    refine lv_land hx hb d_Writer_putPieceHead_89 ?_
    refine lv_iconst (v := 1) hx hb d_Writer_putPieceHead_90 (by decide) ?_
    refine lv_lshl (v := (t0 &&& 32767) <<< ((1 : Int32).toInt64 &&& 63)) hx hb d_Writer_putPieceHead_91 rfl ?_
    refine lv_lconst (v := 1) hx hb d_Writer_putPieceHead_92 (by decide) ?_
    refine lv_lor hx hb d_Writer_putPieceHead_93 ?_
    refine lv_iconst (v := 2) hx hb d_Writer_putPieceHead_94 (by decide) ?_
    have hPc := hP.sub (ws' := [(w, .inr (10, [.ref tp, .ref la, .int q81.2.2.1, .int q81.2.2.2.1, .int q81.2.2.2.2.1, .int ss])), (la, .inr (1, [.int (nI pid), va_rf nx, .int ct, .int tw, .long ck, .int q81.2.2.2.2.2, va_rf se, va_rf pi])), (tp, .inr (0, [.ref a, .int q81.2.1])), (a, .inl (cB, 9400, .inl q81.1))]) [0, 1, 2, 3] rfl
    have hKc := hK.sub (tys' := [(cB, .byte)]) [0] rfl
    have hDc := hD.sub (ws' := [(w, .inr (10, [.ref tp, .ref la, .int q81.2.2.1, .int q81.2.2.2.1, .int q81.2.2.2.2.1, .int ss])), (la, .inr (1, [.int (nI pid), va_rf nx, .int ct, .int tw, .long ck, .int q81.2.2.2.2.2, va_rf se, va_rf pi])), (tp, .inr (0, [.ref a, .int q81.2.1])), (a, .inl (cB, 9400, .inl q81.1))]) [0, 1, 2, 3] (by decide) rfl
    have hFc := va_free (wc := [(w, .inr (10, [.ref tp, .ref la, .int q81.2.2.1, .int q81.2.2.2.1, .int q81.2.2.2.2.1, .int ss])), (la, .inr (1, [.int (nI pid), va_rf nx, .int ct, .int tw, .long ck, .int q81.2.2.2.2.2, va_rf se, va_rf pi])), (tp, .inr (0, [.ref a, .int q81.2.1])), (a, .inl (cB, 9400, .inl q81.1))]) hD hS hA [0, 1, 2, 3] rfl
    refine va_callv (va_runV (As := [.long (((t0 &&& 32767) <<< ((1 : Int32).toInt64 &&& 63)) ||| 1), .int (nI 2)]) (rest := []) ⟨hx, hb, hml, hown, hts⟩ (c_Writer_putNumber l D H.size cB w tp a q81 ss la nx se pi ct tw ck pid w0 tot T0 (((((((B ++ bsL 1 3) ++ bsL kd.toInt64 1) ++ bsL ts.toInt64 2) ++ bsL 128 1) ++ bsL 32773 2) ++ bsL ((32 ||| ((t0 >>> ((30 : Int32).toInt64 &&& 63)) <<< ((1 : Int32).toInt64 &&& 63))) ||| 1) 1) ++ bsL ((((t0 >>> ((15 : Int32).toInt64 &&& 63)) &&& 32767) <<< ((1 : Int32).toInt64 &&& 63)) ||| 1) 2) (((t0 &&& 32767) <<< ((1 : Int32).toInt64 &&& 63)) ||| 1) 2 e81 htot hT hpid hw0 (by (try simp only [List.length_append, bs_len, List.length_nil, ph_len]); omega) (by omega) (by omega)) (z_cV hN wd_988 wd_85 wd_985 hd_Writer_putNumber rfl rfl ⟨Nat.le_of_ble_eq_true rfl, Nat.le_of_ble_eq_true rfl⟩ wd_987 wd_23) (z_preVm (va_recv (ci := 10) (q0 := 0) hK hP rfl rfl) hPc hKc hN hDc) rfl rfl hl.1 rfl (lv_room (Nat.le_of_ble_eq_true rfl)) d_Writer_putPieceHead_95 ⟨Nat.le_of_ble_eq_true rfl, Nat.le_of_ble_eq_true rfl⟩) hS (fun q _ h => hFc q h) hFc (fun q95 t H locs ht hvm e95 hB hz1 hk1 hS => ?_)
    obtain ⟨hP1, hK1, hD1⟩ := hB
    rw [ht] at hP1
    obtain ⟨hP, hD⟩ := va_join (wr := []) (w1 := [(w, .inr (10, [.ref tp, .ref la, .int q95.2.2.1, .int q95.2.2.2.1, .int q95.2.2.2.2.1, .int ss])), (la, .inr (1, [.int (nI pid), va_rf nx, .int ct, .int tw, .long ck, .int q95.2.2.2.2.2, va_rf se, va_rf pi])), (tp, .inr (0, [.ref a, .int q95.2.1])), (a, .inl (cB, 9400, .inl q95.1))]) hP hD [0, 1, 2, 3] [] rfl rfl (by decide) (by decide) hk1 hFc hP1 hD1
    clear hk1 hP1 hD1 hFc hPc hDc hz1
    have hP : va_P D classes [(w, .inr (10, [.ref tp, .ref la, .int q95.2.2.1, .int q95.2.2.2.1, .int q95.2.2.2.2.1, .int ss])), (la, .inr (1, [.int (nI pid), va_rf nx, .int ct, .int tw, .long ck, .int q95.2.2.2.2.2, va_rf se, va_rf pi])), (tp, .inr (0, [.ref a, .int q95.2.1])), (a, .inl (cB, 9400, .inl q95.1))] H := hP
    have hD : va_D A [(w, .inr (10, [.ref tp, .ref la, .int q95.2.2.1, .int q95.2.2.2.1, .int q95.2.2.2.2.1, .int ss])), (la, .inr (1, [.int (nI pid), va_rf nx, .int ct, .int tw, .long ck, .int q95.2.2.2.2.2, va_rf se, va_rf pi])), (tp, .inr (0, [.ref a, .int q95.2.1])), (a, .inl (cB, 9400, .inl q95.1))] := hD
    have hP9 := hP.sub (ws' := [(w, .inr (10, [.ref tp, .ref la, .int q95.2.2.1, .int q95.2.2.2.1, .int q95.2.2.2.2.1, .int ss])), (la, .inr (1, [.int (nI pid), va_rf nx, .int ct, .int tw, .long ck, .int q95.2.2.2.2.2, va_rf se, va_rf pi])), (tp, .inr (0, [.ref a, .int q95.2.1])), (a, .inl (cB, 9400, .inl q95.1))]) [0, 1, 2, 3] rfl
    have hD9 := hD.sub (ws' := [(w, .inr (10, [.ref tp, .ref la, .int q95.2.2.1, .int q95.2.2.2.1, .int q95.2.2.2.2.1, .int ss])), (la, .inr (1, [.int (nI pid), va_rf nx, .int ct, .int tw, .long ck, .int q95.2.2.2.2.2, va_rf se, va_rf pi])), (tp, .inr (0, [.ref a, .int q95.2.1])), (a, .inl (cB, 9400, .inl q95.1))]) [0, 1, 2, 3] (by decide) rfl
    have hK9 := hK.sub (tys' := [(cB, .byte)]) [0] rfl
    exact W.vret hx hb hr (fun t ht hW => ⟨⟨q95, rfl, (by have hz := e95; unfold phL; rw [if_neg h32]; simpa only [List.append_assoc] using hz), ⟨by rw [ht]; exact hP9, va_K.moved hW.alike hK9, hD9⟩⟩, hS.F ht⟩) hS.2.2 d_Writer_putPieceHead_98
  · have h32 : t0 < 0 := Int64.not_le.mp (mt (lg_cmp_ge _ _).mpr h32)
    rw [if_pos h32] at hB
    refine lv_aload_n hx hb d_Writer_putPieceHead_35 rfl (lv_at hl 0 rfl) ?_
    refine lv_lconst (v := 0) hx hb d_Writer_putPieceHead_36 (by decide) ?_
    refine lv_iconst (v := 2) hx hb d_Writer_putPieceHead_37 (by decide) ?_
    have hPc := hP.sub (ws' := [(w, .inr (10, [.ref tp, .ref la, .int q26.2.2.1, .int q26.2.2.2.1, .int q26.2.2.2.2.1, .int ss])), (la, .inr (1, [.int (nI pid), va_rf nx, .int ct, .int tw, .long ck, .int q26.2.2.2.2.2, va_rf se, va_rf pi])), (tp, .inr (0, [.ref a, .int q26.2.1])), (a, .inl (cB, 9400, .inl q26.1))]) [0, 1, 2, 3] rfl
    have hKc := hK.sub (tys' := [(cB, .byte)]) [0] rfl
    have hDc := hD.sub (ws' := [(w, .inr (10, [.ref tp, .ref la, .int q26.2.2.1, .int q26.2.2.2.1, .int q26.2.2.2.2.1, .int ss])), (la, .inr (1, [.int (nI pid), va_rf nx, .int ct, .int tw, .long ck, .int q26.2.2.2.2.2, va_rf se, va_rf pi])), (tp, .inr (0, [.ref a, .int q26.2.1])), (a, .inl (cB, 9400, .inl q26.1))]) [0, 1, 2, 3] (by decide) rfl
    have hFc := va_free (wc := [(w, .inr (10, [.ref tp, .ref la, .int q26.2.2.1, .int q26.2.2.2.1, .int q26.2.2.2.2.1, .int ss])), (la, .inr (1, [.int (nI pid), va_rf nx, .int ct, .int tw, .long ck, .int q26.2.2.2.2.2, va_rf se, va_rf pi])), (tp, .inr (0, [.ref a, .int q26.2.1])), (a, .inl (cB, 9400, .inl q26.1))]) hD hS hA [0, 1, 2, 3] rfl
    refine va_callv (va_runV (As := [.long 0, .int (nI 2)]) (rest := []) ⟨hx, hb, hml, hown, hts⟩ (c_Writer_putNumber l D H.size cB w tp a q26 ss la nx se pi ct tw ck pid w0 tot T0 ((((B ++ bsL 1 3) ++ bsL kd.toInt64 1) ++ bsL ts.toInt64 2) ++ bsL 128 1) 0 2 e26 htot hT hpid hw0 (by (try simp only [List.length_append, bs_len, List.length_nil, ph_len]); omega) (by omega) (by omega)) (z_cV hN wd_988 wd_85 wd_985 hd_Writer_putNumber rfl rfl ⟨Nat.le_of_ble_eq_true rfl, Nat.le_of_ble_eq_true rfl⟩ wd_987 wd_23) (z_preVm (va_recv (ci := 10) (q0 := 0) hK hP rfl rfl) hPc hKc hN hDc) rfl rfl hl.1 rfl (lv_room (Nat.le_of_ble_eq_true rfl)) d_Writer_putPieceHead_38 ⟨Nat.le_of_ble_eq_true rfl, Nat.le_of_ble_eq_true rfl⟩) hS (fun q _ h => hFc q h) hFc (fun q38 t H locs ht hvm e38 hB hz1 hk1 hS => ?_)
    obtain ⟨hP1, hK1, hD1⟩ := hB
    rw [ht] at hP1
    obtain ⟨hP, hD⟩ := va_join (wr := []) (w1 := [(w, .inr (10, [.ref tp, .ref la, .int q38.2.2.1, .int q38.2.2.2.1, .int q38.2.2.2.2.1, .int ss])), (la, .inr (1, [.int (nI pid), va_rf nx, .int ct, .int tw, .long ck, .int q38.2.2.2.2.2, va_rf se, va_rf pi])), (tp, .inr (0, [.ref a, .int q38.2.1])), (a, .inl (cB, 9400, .inl q38.1))]) hP hD [0, 1, 2, 3] [] rfl rfl (by decide) (by decide) hk1 hFc hP1 hD1
    clear hk1 hP1 hD1 hFc hPc hDc hz1
    have hP : va_P D classes [(w, .inr (10, [.ref tp, .ref la, .int q38.2.2.1, .int q38.2.2.2.1, .int q38.2.2.2.2.1, .int ss])), (la, .inr (1, [.int (nI pid), va_rf nx, .int ct, .int tw, .long ck, .int q38.2.2.2.2.2, va_rf se, va_rf pi])), (tp, .inr (0, [.ref a, .int q38.2.1])), (a, .inl (cB, 9400, .inl q38.1))] H := hP
    have hD : va_D A [(w, .inr (10, [.ref tp, .ref la, .int q38.2.2.1, .int q38.2.2.2.1, .int q38.2.2.2.2.1, .int ss])), (la, .inr (1, [.int (nI pid), va_rf nx, .int ct, .int tw, .long ck, .int q38.2.2.2.2.2, va_rf se, va_rf pi])), (tp, .inr (0, [.ref a, .int q38.2.1])), (a, .inl (cB, 9400, .inl q38.1))] := hD
    have hP9 := hP.sub (ws' := [(w, .inr (10, [.ref tp, .ref la, .int q38.2.2.1, .int q38.2.2.2.1, .int q38.2.2.2.2.1, .int ss])), (la, .inr (1, [.int (nI pid), va_rf nx, .int ct, .int tw, .long ck, .int q38.2.2.2.2.2, va_rf se, va_rf pi])), (tp, .inr (0, [.ref a, .int q38.2.1])), (a, .inl (cB, 9400, .inl q38.1))]) [0, 1, 2, 3] rfl
    have hD9 := hD.sub (ws' := [(w, .inr (10, [.ref tp, .ref la, .int q38.2.2.1, .int q38.2.2.2.1, .int q38.2.2.2.2.1, .int ss])), (la, .inr (1, [.int (nI pid), va_rf nx, .int ct, .int tw, .long ck, .int q38.2.2.2.2.2, va_rf se, va_rf pi])), (tp, .inr (0, [.ref a, .int q38.2.1])), (a, .inl (cB, 9400, .inl q38.1))]) [0, 1, 2, 3] (by decide) rfl
    have hK9 := hK.sub (tys' := [(cB, .byte)]) [0] rfl
    exact W.vret hx hb hr (fun t ht hW => ⟨⟨q38, rfl, (by have hz := e38; unfold phL; rw [if_pos h32]; simpa only [List.append_assoc] using hz), ⟨by rw [ht]; exact hP9, va_K.moved hW.alike hK9, hD9⟩⟩, hS.F ht⟩) hS.2.2 d_Writer_putPieceHead_41
set_option maxHeartbeats 4000000 in
set_option maxRecDepth 100000 in
theorem c_Writer_putOrderHead (l : Launch) (D : va_G) (sz : Nat) (cB : ClassId) (w tp a : Nat) (q0 : WQ) (ss : Int32) (la : Nat) (nx se pi : Option Nat) (ct tw : Int32) (ck : Int64) (pid w0 tot : Nat) (T0 B : List Int32) (nm : Int32) (t0 : Int64) (hq0 : WS pid w0 tot T0 B q0) (htot : tot ≤ 4100) (hT : T0.length + 188 * ((tot + 183) / 184) ≤ 9400) (hpid : pid < 8192) (hw0 : w0 < 2 ^ 29) (hB : B.length + 15 ≤ tot) : Met l y_Writer_putOrderHead [Cond.code y_Writer_putOrderHead b_Writer_putOrderHead 4 none] ({ frames := 4, cells := 0, slots := 0, locals := 90 }) (zM [.ref w, .int nm, .long t0] D [(w, .inr (10, [.ref tp, .ref la, .int q0.2.2.1, .int q0.2.2.2.1, .int q0.2.2.2.2.1, .int ss])), (la, .inr (1, [.int (nI pid), va_rf nx, .int ct, .int tw, .long ck, .int q0.2.2.2.2.2, va_rf se, va_rf pi])), (tp, .inr (0, [.ref a, .int q0.2.1])), (a, .inl (cB, 9400, .inl q0.1))] [(cB, .byte)] sz) (va_Qv (fun (u : WQ) => WS pid w0 tot T0 (B ++ ohL nm t0) u) (fun (u : WQ) t => zW D (va_A [(w, .inr (10, [.ref tp, .ref la, .int q0.2.2.1, .int q0.2.2.2.1, .int q0.2.2.2.2.1, .int ss])), (la, .inr (1, [.int (nI pid), va_rf nx, .int ct, .int tw, .long ck, .int q0.2.2.2.2.2, va_rf se, va_rf pi])), (tp, .inr (0, [.ref a, .int q0.2.1])), (a, .inl (cB, 9400, .inl q0.1))] sz) [(w, .inr (10, [.ref tp, .ref la, .int u.2.2.1, .int u.2.2.2.1, .int u.2.2.2.2.1, .int ss])), (la, .inr (1, [.int (nI pid), va_rf nx, .int ct, .int tw, .long ck, .int u.2.2.2.2.2, va_rf se, va_rf pi])), (tp, .inr (0, [.ref a, .int u.2.1])), (a, .inl (cB, 9400, .inl u.1))] [(cB, .byte)] t) (va_A [(w, .inr (10, [.ref tp, .ref la, .int q0.2.2.1, .int q0.2.2.2.1, .int q0.2.2.2.2.1, .int ss])), (la, .inr (1, [.int (nI pid), va_rf nx, .int ct, .int tw, .long ck, .int q0.2.2.2.2.2, va_rf se, va_rf pi])), (tp, .inr (0, [.ref a, .int q0.2.1])), (a, .inl (cB, 9400, .inl q0.1))] sz)) 0 0 (va_A [(w, .inr (10, [.ref tp, .ref la, .int q0.2.2.1, .int q0.2.2.2.1, .int q0.2.2.2.2.1, .int ss])), (la, .inr (1, [.int (nI pid), va_rf nx, .int ct, .int tw, .long ck, .int q0.2.2.2.2.2, va_rf se, va_rf pi])), (tp, .inr (0, [.ref a, .int q0.2.1])), (a, .inl (cB, 9400, .inl q0.1))] sz) := by
  refine Met.ofW (cc := b_Writer_putOrderHead) (maxL := 4) (ret := none) (by decide) rfl ?_
  intro p e s m args below meth cd s₁ Bd hml hv
  obtain ⟨rfl, hsz, hP, hK, hN, hD0⟩ := hv
  have hx := Bd.exec
  have hb := Bd.bytes
  have hr := Bd.returns
  have hts := hN.use (a := ([.ref w, .int nm, .long t0]).toArray)
  have hown : s.vm.findClass R_Writer = some m.cls := findClass_of_methodNamed Bd.named
  have hlocks := Bd.notSynchronized
  subst hsz
  have hD := hD0.self (sz := s.heap.size)
  clear hD0
  have hA : ∀ q : Nat, s.heap.size ≤ q → va_A [(w, .inr (10, [.ref tp, .ref la, .int q0.2.2.1, .int q0.2.2.2.1, .int q0.2.2.2.2.1, .int ss])), (la, .inr (1, [.int (nI pid), va_rf nx, .int ct, .int tw, .long ck, .int q0.2.2.2.2.2, va_rf se, va_rf pi])), (tp, .inr (0, [.ref a, .int q0.2.1])), (a, .inl (cB, 9400, .inl q0.1))] s.heap.size q := fun q h => Or.inr h
  have hS : va_S (va_A [(w, .inr (10, [.ref tp, .ref la, .int q0.2.2.1, .int q0.2.2.2.1, .int q0.2.2.2.2.1, .int ss])), (la, .inr (1, [.int (nI pid), va_rf nx, .int ct, .int tw, .long ck, .int q0.2.2.2.2.2, va_rf se, va_rf pi])), (tp, .inr (0, [.ref a, .int q0.2.1])), (a, .inl (cB, 9400, .inl q0.1))] s.heap.size) s.heap s.heap [] := va_S.rf
  generalize hAe : va_A [(w, .inr (10, [.ref tp, .ref la, .int q0.2.2.1, .int q0.2.2.2.1, .int q0.2.2.2.2.1, .int ss])), (la, .inr (1, [.int (nI pid), va_rf nx, .int ct, .int tw, .long ck, .int q0.2.2.2.2.2, va_rf se, va_rf pi])), (tp, .inr (0, [.ref a, .int q0.2.1])), (a, .inl (cB, 9400, .inl q0.1))] s.heap.size = A at hD hA hS ⊢
  have hP : va_P D classes [(w, .inr (10, [.ref tp, .ref la, .int q0.2.2.1, .int q0.2.2.2.1, .int q0.2.2.2.2.1, .int ss])), (la, .inr (1, [.int (nI pid), va_rf nx, .int ct, .int tw, .long ck, .int q0.2.2.2.2.2, va_rf se, va_rf pi])), (tp, .inr (0, [.ref a, .int q0.2.1])), (a, .inl (cB, 9400, .inl q0.1))] s.heap := hP
  have hl := lv_entry ([.ref w, .int nm, .long t0]) (n := 4) (Nat.le_of_ble_eq_true rfl)
  rw [lg_entry_eq]
  generalize (lg_sl ([.ref w, .int nm, .long t0]) ++ List.replicate (4 - (lg_sl ([.ref w, .int nm, .long t0])).length) Slot.unset).toArray = ls at hl ⊢
  have hl : lv_has ls 4 [(0, .ref w), (1, .int nm), (2, .long t0)] := hl
  refine lv_aload_n hx hb d_Writer_putOrderHead_0 rfl (lv_at hl 0 rfl) ?_
  refine lv_lconst (v := 0) hx hb d_Writer_putOrderHead_1 (by decide) ?_
  refine lv_iconst (v := 1) hx hb d_Writer_putOrderHead_2 (by decide) ?_
  have hPc := hP.sub (ws' := [(w, .inr (10, [.ref tp, .ref la, .int q0.2.2.1, .int q0.2.2.2.1, .int q0.2.2.2.2.1, .int ss])), (la, .inr (1, [.int (nI pid), va_rf nx, .int ct, .int tw, .long ck, .int q0.2.2.2.2.2, va_rf se, va_rf pi])), (tp, .inr (0, [.ref a, .int q0.2.1])), (a, .inl (cB, 9400, .inl q0.1))]) [0, 1, 2, 3] rfl
  have hKc := hK.sub (tys' := [(cB, .byte)]) [0] rfl
  have hDc := hD.sub (ws' := [(w, .inr (10, [.ref tp, .ref la, .int q0.2.2.1, .int q0.2.2.2.1, .int q0.2.2.2.2.1, .int ss])), (la, .inr (1, [.int (nI pid), va_rf nx, .int ct, .int tw, .long ck, .int q0.2.2.2.2.2, va_rf se, va_rf pi])), (tp, .inr (0, [.ref a, .int q0.2.1])), (a, .inl (cB, 9400, .inl q0.1))]) [0, 1, 2, 3] (by decide) rfl
  have hFc := va_free (wc := [(w, .inr (10, [.ref tp, .ref la, .int q0.2.2.1, .int q0.2.2.2.1, .int q0.2.2.2.2.1, .int ss])), (la, .inr (1, [.int (nI pid), va_rf nx, .int ct, .int tw, .long ck, .int q0.2.2.2.2.2, va_rf se, va_rf pi])), (tp, .inr (0, [.ref a, .int q0.2.1])), (a, .inl (cB, 9400, .inl q0.1))]) hD hS hA [0, 1, 2, 3] rfl
  refine va_callv (va_runV (As := [.long 0, .int (nI 1)]) (rest := []) ⟨hx, hb, hml, hown, hts⟩ (c_Writer_putNumber l D s.heap.size cB w tp a q0 ss la nx se pi ct tw ck pid w0 tot T0 B 0 1 hq0 htot hT hpid hw0 (by (try simp only [List.length_append, bs_len, List.length_nil, ph_len]); omega) (by omega) (by omega)) (z_cV hN wd_988 wd_85 wd_985 hd_Writer_putNumber rfl rfl ⟨Nat.le_of_ble_eq_true rfl, Nat.le_of_ble_eq_true rfl⟩ wd_987 wd_23) (z_preVm (va_recv (ci := 10) (q0 := 0) hK hP rfl rfl) hPc hKc hN hDc) rfl rfl hl.1 rfl (lv_room (Nat.le_of_ble_eq_true rfl)) d_Writer_putOrderHead_3 ⟨Nat.le_of_ble_eq_true rfl, Nat.le_of_ble_eq_true rfl⟩) hS (fun q _ h => hFc q h) hFc (fun q3 t H locs ht hvm e3 hB hz1 hk1 hS => ?_)
  obtain ⟨hP1, hK1, hD1⟩ := hB
  rw [ht] at hP1
  obtain ⟨hP, hD⟩ := va_join (wr := []) (w1 := [(w, .inr (10, [.ref tp, .ref la, .int q3.2.2.1, .int q3.2.2.2.1, .int q3.2.2.2.2.1, .int ss])), (la, .inr (1, [.int (nI pid), va_rf nx, .int ct, .int tw, .long ck, .int q3.2.2.2.2.2, va_rf se, va_rf pi])), (tp, .inr (0, [.ref a, .int q3.2.1])), (a, .inl (cB, 9400, .inl q3.1))]) hP hD [0, 1, 2, 3] [] rfl rfl (by decide) (by decide) hk1 hFc hP1 hD1
  clear hk1 hP1 hD1 hFc hPc hDc hz1
  have hP : va_P D classes [(w, .inr (10, [.ref tp, .ref la, .int q3.2.2.1, .int q3.2.2.2.1, .int q3.2.2.2.2.1, .int ss])), (la, .inr (1, [.int (nI pid), va_rf nx, .int ct, .int tw, .long ck, .int q3.2.2.2.2.2, va_rf se, va_rf pi])), (tp, .inr (0, [.ref a, .int q3.2.1])), (a, .inl (cB, 9400, .inl q3.1))] H := hP
  have hD : va_D A [(w, .inr (10, [.ref tp, .ref la, .int q3.2.2.1, .int q3.2.2.2.1, .int q3.2.2.2.2.1, .int ss])), (la, .inr (1, [.int (nI pid), va_rf nx, .int ct, .int tw, .long ck, .int q3.2.2.2.2.2, va_rf se, va_rf pi])), (tp, .inr (0, [.ref a, .int q3.2.1])), (a, .inl (cB, 9400, .inl q3.1))] := hD
  refine lv_aload_n hx hb d_Writer_putOrderHead_6 rfl (lv_at hl 0 rfl) ?_
  refine lv_iconst (v := 0) hx hb d_Writer_putOrderHead_7 (by decide) ?_
  refine lv_lload_n hx hb d_Writer_putOrderHead_8 rfl (lv_at hl 2 rfl) ?_
  have hPc := hP.sub (ws' := [(w, .inr (10, [.ref tp, .ref la, .int q3.2.2.1, .int q3.2.2.2.1, .int q3.2.2.2.2.1, .int ss])), (la, .inr (1, [.int (nI pid), va_rf nx, .int ct, .int tw, .long ck, .int q3.2.2.2.2.2, va_rf se, va_rf pi])), (tp, .inr (0, [.ref a, .int q3.2.1])), (a, .inl (cB, 9400, .inl q3.1))]) [0, 1, 2, 3] rfl
  have hKc := hK.sub (tys' := [(cB, .byte)]) [0] rfl
  have hDc := hD.sub (ws' := [(w, .inr (10, [.ref tp, .ref la, .int q3.2.2.1, .int q3.2.2.2.1, .int q3.2.2.2.2.1, .int ss])), (la, .inr (1, [.int (nI pid), va_rf nx, .int ct, .int tw, .long ck, .int q3.2.2.2.2.2, va_rf se, va_rf pi])), (tp, .inr (0, [.ref a, .int q3.2.1])), (a, .inl (cB, 9400, .inl q3.1))]) [0, 1, 2, 3] (by decide) rfl
  have hFc := va_free (wc := [(w, .inr (10, [.ref tp, .ref la, .int q3.2.2.1, .int q3.2.2.2.1, .int q3.2.2.2.2.1, .int ss])), (la, .inr (1, [.int (nI pid), va_rf nx, .int ct, .int tw, .long ck, .int q3.2.2.2.2.2, va_rf se, va_rf pi])), (tp, .inr (0, [.ref a, .int q3.2.1])), (a, .inl (cB, 9400, .inl q3.1))]) hD hS hA [0, 1, 2, 3] rfl
  refine va_callv (va_runV (As := [.int 0, .long t0]) (rest := []) ⟨hx, hb, hml, hown, hts⟩ (c_Writer_putFlagAndTime l D H.size cB w tp a q3 ss la nx se pi ct tw ck pid w0 tot T0 (B ++ bsL 0 1) 0 t0 e3 htot hT hpid hw0 (by (try simp only [List.length_append, bs_len, List.length_nil, ph_len]); omega)) (z_cV hN wd_1069 wd_85 wd_1066 hd_Writer_putFlagAndTime rfl rfl ⟨Nat.le_of_ble_eq_true rfl, Nat.le_of_ble_eq_true rfl⟩ wd_1068 wd_27) (z_preVm (va_recv (ci := 10) (q0 := 0) hK hP rfl rfl) hPc hKc hN hDc) rfl rfl hl.1 rfl (lv_room (Nat.le_of_ble_eq_true rfl)) d_Writer_putOrderHead_9 ⟨Nat.le_of_ble_eq_true rfl, Nat.le_of_ble_eq_true rfl⟩) hS (fun q _ h => hFc q h) hFc (fun q9 t H locs ht hvm e9 hB hz1 hk1 hS => ?_)
  obtain ⟨hP1, hK1, hD1⟩ := hB
  rw [ht] at hP1
  obtain ⟨hP, hD⟩ := va_join (wr := []) (w1 := [(w, .inr (10, [.ref tp, .ref la, .int q9.2.2.1, .int q9.2.2.2.1, .int q9.2.2.2.2.1, .int ss])), (la, .inr (1, [.int (nI pid), va_rf nx, .int ct, .int tw, .long ck, .int q9.2.2.2.2.2, va_rf se, va_rf pi])), (tp, .inr (0, [.ref a, .int q9.2.1])), (a, .inl (cB, 9400, .inl q9.1))]) hP hD [0, 1, 2, 3] [] rfl rfl (by decide) (by decide) hk1 hFc hP1 hD1
  clear hk1 hP1 hD1 hFc hPc hDc hz1
  have hP : va_P D classes [(w, .inr (10, [.ref tp, .ref la, .int q9.2.2.1, .int q9.2.2.2.1, .int q9.2.2.2.2.1, .int ss])), (la, .inr (1, [.int (nI pid), va_rf nx, .int ct, .int tw, .long ck, .int q9.2.2.2.2.2, va_rf se, va_rf pi])), (tp, .inr (0, [.ref a, .int q9.2.1])), (a, .inl (cB, 9400, .inl q9.1))] H := hP
  have hD : va_D A [(w, .inr (10, [.ref tp, .ref la, .int q9.2.2.1, .int q9.2.2.2.1, .int q9.2.2.2.2.1, .int ss])), (la, .inr (1, [.int (nI pid), va_rf nx, .int ct, .int tw, .long ck, .int q9.2.2.2.2.2, va_rf se, va_rf pi])), (tp, .inr (0, [.ref a, .int q9.2.1])), (a, .inl (cB, 9400, .inl q9.1))] := hD
  refine lv_aload_n hx hb d_Writer_putOrderHead_12 rfl (lv_at hl 0 rfl) ?_
  refine lv_ldc2 hx hb hown (hts _ wd_1072) d_Writer_putOrderHead_13 ?_
  refine lv_iconst (v := 4) hx hb d_Writer_putOrderHead_16 (by decide) ?_
  have hPc := hP.sub (ws' := [(w, .inr (10, [.ref tp, .ref la, .int q9.2.2.1, .int q9.2.2.2.1, .int q9.2.2.2.2.1, .int ss])), (la, .inr (1, [.int (nI pid), va_rf nx, .int ct, .int tw, .long ck, .int q9.2.2.2.2.2, va_rf se, va_rf pi])), (tp, .inr (0, [.ref a, .int q9.2.1])), (a, .inl (cB, 9400, .inl q9.1))]) [0, 1, 2, 3] rfl
  have hKc := hK.sub (tys' := [(cB, .byte)]) [0] rfl
  have hDc := hD.sub (ws' := [(w, .inr (10, [.ref tp, .ref la, .int q9.2.2.1, .int q9.2.2.2.1, .int q9.2.2.2.2.1, .int ss])), (la, .inr (1, [.int (nI pid), va_rf nx, .int ct, .int tw, .long ck, .int q9.2.2.2.2.2, va_rf se, va_rf pi])), (tp, .inr (0, [.ref a, .int q9.2.1])), (a, .inl (cB, 9400, .inl q9.1))]) [0, 1, 2, 3] (by decide) rfl
  have hFc := va_free (wc := [(w, .inr (10, [.ref tp, .ref la, .int q9.2.2.1, .int q9.2.2.2.1, .int q9.2.2.2.2.1, .int ss])), (la, .inr (1, [.int (nI pid), va_rf nx, .int ct, .int tw, .long ck, .int q9.2.2.2.2.2, va_rf se, va_rf pi])), (tp, .inr (0, [.ref a, .int q9.2.1])), (a, .inl (cB, 9400, .inl q9.1))]) hD hS hA [0, 1, 2, 3] rfl
  refine va_callv (va_runV (As := [.long (-1), .int (nI 4)]) (rest := []) ⟨hx, hb, hml, hown, hts⟩ (c_Writer_putNumber l D H.size cB w tp a q9 ss la nx se pi ct tw ck pid w0 tot T0 ((B ++ bsL 0 1) ++ bsL (ftV 0 t0) 5) (-1) 4 e9 htot hT hpid hw0 (by (try simp only [List.length_append, bs_len, List.length_nil, ph_len]); omega) (by omega) (by omega)) (z_cV hN wd_988 wd_85 wd_985 hd_Writer_putNumber rfl rfl ⟨Nat.le_of_ble_eq_true rfl, Nat.le_of_ble_eq_true rfl⟩ wd_987 wd_23) (z_preVm (va_recv (ci := 10) (q0 := 0) hK hP rfl rfl) hPc hKc hN hDc) rfl rfl hl.1 rfl (lv_room (Nat.le_of_ble_eq_true rfl)) d_Writer_putOrderHead_17 ⟨Nat.le_of_ble_eq_true rfl, Nat.le_of_ble_eq_true rfl⟩) hS (fun q _ h => hFc q h) hFc (fun q17 t H locs ht hvm e17 hB hz1 hk1 hS => ?_)
  obtain ⟨hP1, hK1, hD1⟩ := hB
  rw [ht] at hP1
  obtain ⟨hP, hD⟩ := va_join (wr := []) (w1 := [(w, .inr (10, [.ref tp, .ref la, .int q17.2.2.1, .int q17.2.2.2.1, .int q17.2.2.2.2.1, .int ss])), (la, .inr (1, [.int (nI pid), va_rf nx, .int ct, .int tw, .long ck, .int q17.2.2.2.2.2, va_rf se, va_rf pi])), (tp, .inr (0, [.ref a, .int q17.2.1])), (a, .inl (cB, 9400, .inl q17.1))]) hP hD [0, 1, 2, 3] [] rfl rfl (by decide) (by decide) hk1 hFc hP1 hD1
  clear hk1 hP1 hD1 hFc hPc hDc hz1
  have hP : va_P D classes [(w, .inr (10, [.ref tp, .ref la, .int q17.2.2.1, .int q17.2.2.2.1, .int q17.2.2.2.2.1, .int ss])), (la, .inr (1, [.int (nI pid), va_rf nx, .int ct, .int tw, .long ck, .int q17.2.2.2.2.2, va_rf se, va_rf pi])), (tp, .inr (0, [.ref a, .int q17.2.1])), (a, .inl (cB, 9400, .inl q17.1))] H := hP
  have hD : va_D A [(w, .inr (10, [.ref tp, .ref la, .int q17.2.2.1, .int q17.2.2.2.1, .int q17.2.2.2.2.1, .int ss])), (la, .inr (1, [.int (nI pid), va_rf nx, .int ct, .int tw, .long ck, .int q17.2.2.2.2.2, va_rf se, va_rf pi])), (tp, .inr (0, [.ref a, .int q17.2.1])), (a, .inl (cB, 9400, .inl q17.1))] := hD
  refine lv_aload_n hx hb d_Writer_putOrderHead_20 rfl (lv_at hl 0 rfl) ?_
  refine lv_ldc2 hx hb hown (hts _ wd_1073) d_Writer_putOrderHead_21 ?_
  refine lv_iconst (v := 1) hx hb d_Writer_putOrderHead_24 (by decide) ?_
  have hPc := hP.sub (ws' := [(w, .inr (10, [.ref tp, .ref la, .int q17.2.2.1, .int q17.2.2.2.1, .int q17.2.2.2.2.1, .int ss])), (la, .inr (1, [.int (nI pid), va_rf nx, .int ct, .int tw, .long ck, .int q17.2.2.2.2.2, va_rf se, va_rf pi])), (tp, .inr (0, [.ref a, .int q17.2.1])), (a, .inl (cB, 9400, .inl q17.1))]) [0, 1, 2, 3] rfl
  have hKc := hK.sub (tys' := [(cB, .byte)]) [0] rfl
  have hDc := hD.sub (ws' := [(w, .inr (10, [.ref tp, .ref la, .int q17.2.2.1, .int q17.2.2.2.1, .int q17.2.2.2.2.1, .int ss])), (la, .inr (1, [.int (nI pid), va_rf nx, .int ct, .int tw, .long ck, .int q17.2.2.2.2.2, va_rf se, va_rf pi])), (tp, .inr (0, [.ref a, .int q17.2.1])), (a, .inl (cB, 9400, .inl q17.1))]) [0, 1, 2, 3] (by decide) rfl
  have hFc := va_free (wc := [(w, .inr (10, [.ref tp, .ref la, .int q17.2.2.1, .int q17.2.2.2.1, .int q17.2.2.2.2.1, .int ss])), (la, .inr (1, [.int (nI pid), va_rf nx, .int ct, .int tw, .long ck, .int q17.2.2.2.2.2, va_rf se, va_rf pi])), (tp, .inr (0, [.ref a, .int q17.2.1])), (a, .inl (cB, 9400, .inl q17.1))]) hD hS hA [0, 1, 2, 3] rfl
  refine va_callv (va_runV (As := [.long 5, .int (nI 1)]) (rest := []) ⟨hx, hb, hml, hown, hts⟩ (c_Writer_putNumber l D H.size cB w tp a q17 ss la nx se pi ct tw ck pid w0 tot T0 (((B ++ bsL 0 1) ++ bsL (ftV 0 t0) 5) ++ bsL (-1) 4) 5 1 e17 htot hT hpid hw0 (by (try simp only [List.length_append, bs_len, List.length_nil, ph_len]); omega) (by omega) (by omega)) (z_cV hN wd_988 wd_85 wd_985 hd_Writer_putNumber rfl rfl ⟨Nat.le_of_ble_eq_true rfl, Nat.le_of_ble_eq_true rfl⟩ wd_987 wd_23) (z_preVm (va_recv (ci := 10) (q0 := 0) hK hP rfl rfl) hPc hKc hN hDc) rfl rfl hl.1 rfl (lv_room (Nat.le_of_ble_eq_true rfl)) d_Writer_putOrderHead_25 ⟨Nat.le_of_ble_eq_true rfl, Nat.le_of_ble_eq_true rfl⟩) hS (fun q _ h => hFc q h) hFc (fun q25 t H locs ht hvm e25 hB hz1 hk1 hS => ?_)
  obtain ⟨hP1, hK1, hD1⟩ := hB
  rw [ht] at hP1
  obtain ⟨hP, hD⟩ := va_join (wr := []) (w1 := [(w, .inr (10, [.ref tp, .ref la, .int q25.2.2.1, .int q25.2.2.2.1, .int q25.2.2.2.2.1, .int ss])), (la, .inr (1, [.int (nI pid), va_rf nx, .int ct, .int tw, .long ck, .int q25.2.2.2.2.2, va_rf se, va_rf pi])), (tp, .inr (0, [.ref a, .int q25.2.1])), (a, .inl (cB, 9400, .inl q25.1))]) hP hD [0, 1, 2, 3] [] rfl rfl (by decide) (by decide) hk1 hFc hP1 hD1
  clear hk1 hP1 hD1 hFc hPc hDc hz1
  have hP : va_P D classes [(w, .inr (10, [.ref tp, .ref la, .int q25.2.2.1, .int q25.2.2.2.1, .int q25.2.2.2.2.1, .int ss])), (la, .inr (1, [.int (nI pid), va_rf nx, .int ct, .int tw, .long ck, .int q25.2.2.2.2.2, va_rf se, va_rf pi])), (tp, .inr (0, [.ref a, .int q25.2.1])), (a, .inl (cB, 9400, .inl q25.1))] H := hP
  have hD : va_D A [(w, .inr (10, [.ref tp, .ref la, .int q25.2.2.1, .int q25.2.2.2.1, .int q25.2.2.2.2.1, .int ss])), (la, .inr (1, [.int (nI pid), va_rf nx, .int ct, .int tw, .long ck, .int q25.2.2.2.2.2, va_rf se, va_rf pi])), (tp, .inr (0, [.ref a, .int q25.2.1])), (a, .inl (cB, 9400, .inl q25.1))] := hD
  refine lv_aload_n hx hb d_Writer_putOrderHead_28 rfl (lv_at hl 0 rfl) ?_
  refine lv_iload_n hx hb d_Writer_putOrderHead_29 rfl (lv_at hl 1 rfl) ?_
  refine lv_i2l (v := nm.toInt64) hx hb d_Writer_putOrderHead_30 rfl ?_
  refine lv_iconst (v := 4) hx hb d_Writer_putOrderHead_31 (by decide) ?_
  have hPc := hP.sub (ws' := [(w, .inr (10, [.ref tp, .ref la, .int q25.2.2.1, .int q25.2.2.2.1, .int q25.2.2.2.2.1, .int ss])), (la, .inr (1, [.int (nI pid), va_rf nx, .int ct, .int tw, .long ck, .int q25.2.2.2.2.2, va_rf se, va_rf pi])), (tp, .inr (0, [.ref a, .int q25.2.1])), (a, .inl (cB, 9400, .inl q25.1))]) [0, 1, 2, 3] rfl
  have hKc := hK.sub (tys' := [(cB, .byte)]) [0] rfl
  have hDc := hD.sub (ws' := [(w, .inr (10, [.ref tp, .ref la, .int q25.2.2.1, .int q25.2.2.2.1, .int q25.2.2.2.2.1, .int ss])), (la, .inr (1, [.int (nI pid), va_rf nx, .int ct, .int tw, .long ck, .int q25.2.2.2.2.2, va_rf se, va_rf pi])), (tp, .inr (0, [.ref a, .int q25.2.1])), (a, .inl (cB, 9400, .inl q25.1))]) [0, 1, 2, 3] (by decide) rfl
  have hFc := va_free (wc := [(w, .inr (10, [.ref tp, .ref la, .int q25.2.2.1, .int q25.2.2.2.1, .int q25.2.2.2.2.1, .int ss])), (la, .inr (1, [.int (nI pid), va_rf nx, .int ct, .int tw, .long ck, .int q25.2.2.2.2.2, va_rf se, va_rf pi])), (tp, .inr (0, [.ref a, .int q25.2.1])), (a, .inl (cB, 9400, .inl q25.1))]) hD hS hA [0, 1, 2, 3] rfl
  refine va_callv (va_runV (As := [.long nm.toInt64, .int (nI 4)]) (rest := []) ⟨hx, hb, hml, hown, hts⟩ (c_Writer_putNumber l D H.size cB w tp a q25 ss la nx se pi ct tw ck pid w0 tot T0 ((((B ++ bsL 0 1) ++ bsL (ftV 0 t0) 5) ++ bsL (-1) 4) ++ bsL 5 1) nm.toInt64 4 e25 htot hT hpid hw0 (by (try simp only [List.length_append, bs_len, List.length_nil, ph_len]); omega) (by omega) (by omega)) (z_cV hN wd_988 wd_85 wd_985 hd_Writer_putNumber rfl rfl ⟨Nat.le_of_ble_eq_true rfl, Nat.le_of_ble_eq_true rfl⟩ wd_987 wd_23) (z_preVm (va_recv (ci := 10) (q0 := 0) hK hP rfl rfl) hPc hKc hN hDc) rfl rfl hl.1 rfl (lv_room (Nat.le_of_ble_eq_true rfl)) d_Writer_putOrderHead_32 ⟨Nat.le_of_ble_eq_true rfl, Nat.le_of_ble_eq_true rfl⟩) hS (fun q _ h => hFc q h) hFc (fun q32 t H locs ht hvm e32 hB hz1 hk1 hS => ?_)
  obtain ⟨hP1, hK1, hD1⟩ := hB
  rw [ht] at hP1
  obtain ⟨hP, hD⟩ := va_join (wr := []) (w1 := [(w, .inr (10, [.ref tp, .ref la, .int q32.2.2.1, .int q32.2.2.2.1, .int q32.2.2.2.2.1, .int ss])), (la, .inr (1, [.int (nI pid), va_rf nx, .int ct, .int tw, .long ck, .int q32.2.2.2.2.2, va_rf se, va_rf pi])), (tp, .inr (0, [.ref a, .int q32.2.1])), (a, .inl (cB, 9400, .inl q32.1))]) hP hD [0, 1, 2, 3] [] rfl rfl (by decide) (by decide) hk1 hFc hP1 hD1
  clear hk1 hP1 hD1 hFc hPc hDc hz1
  have hP : va_P D classes [(w, .inr (10, [.ref tp, .ref la, .int q32.2.2.1, .int q32.2.2.2.1, .int q32.2.2.2.2.1, .int ss])), (la, .inr (1, [.int (nI pid), va_rf nx, .int ct, .int tw, .long ck, .int q32.2.2.2.2.2, va_rf se, va_rf pi])), (tp, .inr (0, [.ref a, .int q32.2.1])), (a, .inl (cB, 9400, .inl q32.1))] H := hP
  have hD : va_D A [(w, .inr (10, [.ref tp, .ref la, .int q32.2.2.1, .int q32.2.2.2.1, .int q32.2.2.2.2.1, .int ss])), (la, .inr (1, [.int (nI pid), va_rf nx, .int ct, .int tw, .long ck, .int q32.2.2.2.2.2, va_rf se, va_rf pi])), (tp, .inr (0, [.ref a, .int q32.2.1])), (a, .inl (cB, 9400, .inl q32.1))] := hD
  have hP9 := hP.sub (ws' := [(w, .inr (10, [.ref tp, .ref la, .int q32.2.2.1, .int q32.2.2.2.1, .int q32.2.2.2.2.1, .int ss])), (la, .inr (1, [.int (nI pid), va_rf nx, .int ct, .int tw, .long ck, .int q32.2.2.2.2.2, va_rf se, va_rf pi])), (tp, .inr (0, [.ref a, .int q32.2.1])), (a, .inl (cB, 9400, .inl q32.1))]) [0, 1, 2, 3] rfl
  have hD9 := hD.sub (ws' := [(w, .inr (10, [.ref tp, .ref la, .int q32.2.2.1, .int q32.2.2.2.1, .int q32.2.2.2.2.1, .int ss])), (la, .inr (1, [.int (nI pid), va_rf nx, .int ct, .int tw, .long ck, .int q32.2.2.2.2.2, va_rf se, va_rf pi])), (tp, .inr (0, [.ref a, .int q32.2.1])), (a, .inl (cB, 9400, .inl q32.1))]) [0, 1, 2, 3] (by decide) rfl
  have hK9 := hK.sub (tys' := [(cB, .byte)]) [0] rfl
  exact W.vret hx hb hr (fun t ht hW => ⟨⟨q32, rfl, (by have hz := e32; unfold ohL; simpa only [List.append_assoc] using hz), ⟨by rw [ht]; exact hP9, va_K.moved hW.alike hK9, hD9⟩⟩, hS.F ht⟩) hS.2.2 d_Writer_putOrderHead_35
set_option maxHeartbeats 4000000 in
set_option maxRecDepth 100000 in
theorem c_Writer_putOrderBody (l : Launch) (D : va_G) (sz : Nat) (cB : ClassId) (w tp a : Nat) (q0 : WQ) (ss : Int32) (la : Nat) (nx se pi : Option Nat) (ct tw : Int32) (ck : Int64) (pid w0 tot : Nat) (T0 B : List Int32) (how : Int32) (t0 t1 : Int64) (hq0 : WS pid w0 tot T0 B q0) (htot : tot ≤ 4100) (hT : T0.length + 188 * ((tot + 183) / 184) ≤ 9400) (hpid : pid < 8192) (hw0 : w0 < 2 ^ 29) (hB : B.length + 16 ≤ tot) : Met l y_Writer_putOrderBody [Cond.code y_Writer_putOrderBody b_Writer_putOrderBody 8 none] ({ frames := 4, cells := 0, slots := 0, locals := 90 }) (zM [.ref w, .int how, .long t0, .long t1] D [(w, .inr (10, [.ref tp, .ref la, .int q0.2.2.1, .int q0.2.2.2.1, .int q0.2.2.2.2.1, .int ss])), (la, .inr (1, [.int (nI pid), va_rf nx, .int ct, .int tw, .long ck, .int q0.2.2.2.2.2, va_rf se, va_rf pi])), (tp, .inr (0, [.ref a, .int q0.2.1])), (a, .inl (cB, 9400, .inl q0.1))] [(cB, .byte)] sz) (va_Qv (fun (u : WQ) => WS pid w0 tot T0 (B ++ obL how t0 t1) u) (fun (u : WQ) t => zW D (va_A [(w, .inr (10, [.ref tp, .ref la, .int q0.2.2.1, .int q0.2.2.2.1, .int q0.2.2.2.2.1, .int ss])), (la, .inr (1, [.int (nI pid), va_rf nx, .int ct, .int tw, .long ck, .int q0.2.2.2.2.2, va_rf se, va_rf pi])), (tp, .inr (0, [.ref a, .int q0.2.1])), (a, .inl (cB, 9400, .inl q0.1))] sz) [(w, .inr (10, [.ref tp, .ref la, .int u.2.2.1, .int u.2.2.2.1, .int u.2.2.2.2.1, .int ss])), (la, .inr (1, [.int (nI pid), va_rf nx, .int ct, .int tw, .long ck, .int u.2.2.2.2.2, va_rf se, va_rf pi])), (tp, .inr (0, [.ref a, .int u.2.1])), (a, .inl (cB, 9400, .inl u.1))] [(cB, .byte)] t) (va_A [(w, .inr (10, [.ref tp, .ref la, .int q0.2.2.1, .int q0.2.2.2.1, .int q0.2.2.2.2.1, .int ss])), (la, .inr (1, [.int (nI pid), va_rf nx, .int ct, .int tw, .long ck, .int q0.2.2.2.2.2, va_rf se, va_rf pi])), (tp, .inr (0, [.ref a, .int q0.2.1])), (a, .inl (cB, 9400, .inl q0.1))] sz)) 0 0 (va_A [(w, .inr (10, [.ref tp, .ref la, .int q0.2.2.1, .int q0.2.2.2.1, .int q0.2.2.2.2.1, .int ss])), (la, .inr (1, [.int (nI pid), va_rf nx, .int ct, .int tw, .long ck, .int q0.2.2.2.2.2, va_rf se, va_rf pi])), (tp, .inr (0, [.ref a, .int q0.2.1])), (a, .inl (cB, 9400, .inl q0.1))] sz) := by
  refine Met.ofW (cc := b_Writer_putOrderBody) (maxL := 8) (ret := none) (by decide) rfl ?_
  intro p e s m args below meth cd s₁ Bd hml hv
  obtain ⟨rfl, hsz, hP, hK, hN, hD0⟩ := hv
  have hx := Bd.exec
  have hb := Bd.bytes
  have hr := Bd.returns
  have hts := hN.use (a := ([.ref w, .int how, .long t0, .long t1]).toArray)
  have hown : s.vm.findClass R_Writer = some m.cls := findClass_of_methodNamed Bd.named
  have hlocks := Bd.notSynchronized
  subst hsz
  have hD := hD0.self (sz := s.heap.size)
  clear hD0
  have hA : ∀ q : Nat, s.heap.size ≤ q → va_A [(w, .inr (10, [.ref tp, .ref la, .int q0.2.2.1, .int q0.2.2.2.1, .int q0.2.2.2.2.1, .int ss])), (la, .inr (1, [.int (nI pid), va_rf nx, .int ct, .int tw, .long ck, .int q0.2.2.2.2.2, va_rf se, va_rf pi])), (tp, .inr (0, [.ref a, .int q0.2.1])), (a, .inl (cB, 9400, .inl q0.1))] s.heap.size q := fun q h => Or.inr h
  have hS : va_S (va_A [(w, .inr (10, [.ref tp, .ref la, .int q0.2.2.1, .int q0.2.2.2.1, .int q0.2.2.2.2.1, .int ss])), (la, .inr (1, [.int (nI pid), va_rf nx, .int ct, .int tw, .long ck, .int q0.2.2.2.2.2, va_rf se, va_rf pi])), (tp, .inr (0, [.ref a, .int q0.2.1])), (a, .inl (cB, 9400, .inl q0.1))] s.heap.size) s.heap s.heap [] := va_S.rf
  generalize hAe : va_A [(w, .inr (10, [.ref tp, .ref la, .int q0.2.2.1, .int q0.2.2.2.1, .int q0.2.2.2.2.1, .int ss])), (la, .inr (1, [.int (nI pid), va_rf nx, .int ct, .int tw, .long ck, .int q0.2.2.2.2.2, va_rf se, va_rf pi])), (tp, .inr (0, [.ref a, .int q0.2.1])), (a, .inl (cB, 9400, .inl q0.1))] s.heap.size = A at hD hA hS ⊢
  have hP : va_P D classes [(w, .inr (10, [.ref tp, .ref la, .int q0.2.2.1, .int q0.2.2.2.1, .int q0.2.2.2.2.1, .int ss])), (la, .inr (1, [.int (nI pid), va_rf nx, .int ct, .int tw, .long ck, .int q0.2.2.2.2.2, va_rf se, va_rf pi])), (tp, .inr (0, [.ref a, .int q0.2.1])), (a, .inl (cB, 9400, .inl q0.1))] s.heap := hP
  have hl := lv_entry ([.ref w, .int how, .long t0, .long t1]) (n := 8) (Nat.le_of_ble_eq_true rfl)
  rw [lg_entry_eq]
  generalize (lg_sl ([.ref w, .int how, .long t0, .long t1]) ++ List.replicate (8 - (lg_sl ([.ref w, .int how, .long t0, .long t1])).length) Slot.unset).toArray = ls at hl ⊢
  have hl : lv_has ls 8 [(0, .ref w), (1, .int how), (2, .long t0), (4, .long t1)] := hl
  refine lv_iload_n hx hb d_Writer_putOrderBody_0 rfl (lv_at hl 1 rfl) ?_
  refine lv_iconst (v := 1) hx hb d_Writer_putOrderBody_1 (by decide) ?_
  refine lv_iand hx hb d_Writer_putOrderBody_2 ?_
  refine lv_if_eq (tgt := 15) hx hb d_Writer_putOrderBody_3 rfl (fun h3 => ?_) (fun h3 => ?_)
  · have h1 : how &&& 1 = 0 := h3
    refine lv_iload_n hx hb d_Writer_putOrderBody_15 rfl (lv_at hl 1 rfl) ?_
    refine lv_bipush (v := 8) hx hb d_Writer_putOrderBody_16 (by decide) ?_
    refine lv_iand hx hb d_Writer_putOrderBody_18 ?_
    suffices key19 : W p l e ({ frames := 4, cells := 0, slots := 0, locals := 90 }) s m ([.ref w, .int how, .long t0, .long t1]).toArray below meth cd s.heap [] 0 0 (MQ below (va_Qv (fun (u : WQ) => WS pid w0 tot T0 (B ++ obL how t0 t1) u) (fun (u : WQ) t => zW D (A) [(w, .inr (10, [.ref tp, .ref la, .int u.2.2.1, .int u.2.2.2.1, .int u.2.2.2.2.1, .int ss])), (la, .inr (1, [.int (nI pid), va_rf nx, .int ct, .int tw, .long ck, .int u.2.2.2.2.2, va_rf se, va_rf pi])), (tp, .inr (0, [.ref a, .int u.2.1])), (a, .inl (cB, 9400, .inl u.1))] [(cB, .byte)] t) (A)) ([.ref w, .int how, .long t0, .long t1]).toArray s 0 0 (A)) (F0 m 27 ls [.int (if how &&& 8 = 0 then 0 else 1)]) by
      refine lv_if_eq (tgt := 26) hx hb d_Writer_putOrderBody_19 rfl (fun h19 => ?_) (fun h19 => ?_)
      · refine lv_iconst (v := 0) hx hb d_Writer_putOrderBody_26 (by decide) ?_
        refine z_topi (w := (if how &&& 8 = 0 then 0 else 1)) ((if_pos h19).symm) ?_
        exact key19
      · refine lv_iconst (v := 1) hx hb d_Writer_putOrderBody_22 (by decide) ?_
        refine lv_goto (tgt := 27) hx hb d_Writer_putOrderBody_23 rfl ?_
        refine z_topi (w := (if how &&& 8 = 0 then 0 else 1)) ((if_neg h19).symm) ?_
        exact key19
    refine lv_istore (lv' := [(6, .int (if how &&& 8 = 0 then 0 else 1)), (0, .ref w), (1, .int how), (2, .long t0), (4, .long t1)]) hx hb d_Writer_putOrderBody_27 hl (by decide) rfl (fun ls hl => ?_)
    refine lv_iload_n hx hb d_Writer_putOrderBody_29 rfl (lv_at hl 2 rfl) ?_
    refine lv_iconst (v := 4) hx hb d_Writer_putOrderBody_30 (by decide) ?_
    refine lv_iand hx hb d_Writer_putOrderBody_31 ?_
    suffices key32 : W p l e ({ frames := 4, cells := 0, slots := 0, locals := 90 }) s m ([.ref w, .int how, .long t0, .long t1]).toArray below meth cd s.heap [] 0 0 (MQ below (va_Qv (fun (u : WQ) => WS pid w0 tot T0 (B ++ obL how t0 t1) u) (fun (u : WQ) t => zW D (A) [(w, .inr (10, [.ref tp, .ref la, .int u.2.2.1, .int u.2.2.2.1, .int u.2.2.2.2.1, .int ss])), (la, .inr (1, [.int (nI pid), va_rf nx, .int ct, .int tw, .long ck, .int u.2.2.2.2.2, va_rf se, va_rf pi])), (tp, .inr (0, [.ref a, .int u.2.1])), (a, .inl (cB, 9400, .inl u.1))] [(cB, .byte)] t) (A)) ([.ref w, .int how, .long t0, .long t1]).toArray s 0 0 (A)) (F0 m 40 ls [.int (if how &&& 4 = 0 then 0 else 1)]) by
      refine lv_if_eq (tgt := 39) hx hb d_Writer_putOrderBody_32 rfl (fun h32 => ?_) (fun h32 => ?_)
      · refine lv_iconst (v := 0) hx hb d_Writer_putOrderBody_39 (by decide) ?_
        refine z_topi (w := (if how &&& 4 = 0 then 0 else 1)) ((if_pos h32).symm) ?_
        exact key32
      · refine lv_iconst (v := 1) hx hb d_Writer_putOrderBody_35 (by decide) ?_
        refine lv_goto (tgt := 40) hx hb d_Writer_putOrderBody_36 rfl ?_
        refine z_topi (w := (if how &&& 4 = 0 then 0 else 1)) ((if_neg h32).symm) ?_
        exact key32
    refine lv_istore (lv' := [(7, .int (if how &&& 4 = 0 then 0 else 1)), (6, .int (if how &&& 8 = 0 then 0 else 1)), (0, .ref w), (1, .int how), (2, .long t0), (4, .long t1)]) hx hb d_Writer_putOrderBody_40 hl (by decide) rfl (fun ls hl => ?_)
    refine lv_aload_n hx hb d_Writer_putOrderBody_42 rfl (lv_at hl 2 rfl) ?_
    refine lv_ldc2 hx hb hown (hts _ wd_1079) d_Writer_putOrderBody_43 ?_
    refine lv_iconst (v := 1) hx hb d_Writer_putOrderBody_46 (by decide) ?_
    have hPc := hP.sub (ws' := [(w, .inr (10, [.ref tp, .ref la, .int q0.2.2.1, .int q0.2.2.2.1, .int q0.2.2.2.2.1, .int ss])), (la, .inr (1, [.int (nI pid), va_rf nx, .int ct, .int tw, .long ck, .int q0.2.2.2.2.2, va_rf se, va_rf pi])), (tp, .inr (0, [.ref a, .int q0.2.1])), (a, .inl (cB, 9400, .inl q0.1))]) [0, 1, 2, 3] rfl
    have hKc := hK.sub (tys' := [(cB, .byte)]) [0] rfl
    have hDc := hD.sub (ws' := [(w, .inr (10, [.ref tp, .ref la, .int q0.2.2.1, .int q0.2.2.2.1, .int q0.2.2.2.2.1, .int ss])), (la, .inr (1, [.int (nI pid), va_rf nx, .int ct, .int tw, .long ck, .int q0.2.2.2.2.2, va_rf se, va_rf pi])), (tp, .inr (0, [.ref a, .int q0.2.1])), (a, .inl (cB, 9400, .inl q0.1))]) [0, 1, 2, 3] (by decide) rfl
    have hFc := va_free (wc := [(w, .inr (10, [.ref tp, .ref la, .int q0.2.2.1, .int q0.2.2.2.1, .int q0.2.2.2.2.1, .int ss])), (la, .inr (1, [.int (nI pid), va_rf nx, .int ct, .int tw, .long ck, .int q0.2.2.2.2.2, va_rf se, va_rf pi])), (tp, .inr (0, [.ref a, .int q0.2.1])), (a, .inl (cB, 9400, .inl q0.1))]) hD hS hA [0, 1, 2, 3] rfl
    refine va_callv (va_runV (As := [.long 127, .int (nI 1)]) (rest := []) ⟨hx, hb, hml, hown, hts⟩ (c_Writer_putNumber l D s.heap.size cB w tp a q0 ss la nx se pi ct tw ck pid w0 tot T0 B 127 1 hq0 htot hT hpid hw0 (by (try simp only [List.length_append, bs_len, List.length_nil, ph_len]); omega) (by omega) (by omega)) (z_cV hN wd_988 wd_85 wd_985 hd_Writer_putNumber rfl rfl ⟨Nat.le_of_ble_eq_true rfl, Nat.le_of_ble_eq_true rfl⟩ wd_987 wd_23) (z_preVm (va_recv (ci := 10) (q0 := 0) hK hP rfl rfl) hPc hKc hN hDc) rfl rfl hl.1 rfl (lv_room (Nat.le_of_ble_eq_true rfl)) d_Writer_putOrderBody_47 ⟨Nat.le_of_ble_eq_true rfl, Nat.le_of_ble_eq_true rfl⟩) hS (fun q _ h => hFc q h) hFc (fun q47 t H locs ht hvm e47 hB hz1 hk1 hS => ?_)
    obtain ⟨hP1, hK1, hD1⟩ := hB
    rw [ht] at hP1
    obtain ⟨hP, hD⟩ := va_join (wr := []) (w1 := [(w, .inr (10, [.ref tp, .ref la, .int q47.2.2.1, .int q47.2.2.2.1, .int q47.2.2.2.2.1, .int ss])), (la, .inr (1, [.int (nI pid), va_rf nx, .int ct, .int tw, .long ck, .int q47.2.2.2.2.2, va_rf se, va_rf pi])), (tp, .inr (0, [.ref a, .int q47.2.1])), (a, .inl (cB, 9400, .inl q47.1))]) hP hD [0, 1, 2, 3] [] rfl rfl (by decide) (by decide) hk1 hFc hP1 hD1
    clear hk1 hP1 hD1 hFc hPc hDc hz1
    have hP : va_P D classes [(w, .inr (10, [.ref tp, .ref la, .int q47.2.2.1, .int q47.2.2.2.1, .int q47.2.2.2.2.1, .int ss])), (la, .inr (1, [.int (nI pid), va_rf nx, .int ct, .int tw, .long ck, .int q47.2.2.2.2.2, va_rf se, va_rf pi])), (tp, .inr (0, [.ref a, .int q47.2.1])), (a, .inl (cB, 9400, .inl q47.1))] H := hP
    have hD : va_D A [(w, .inr (10, [.ref tp, .ref la, .int q47.2.2.1, .int q47.2.2.2.1, .int q47.2.2.2.2.1, .int ss])), (la, .inr (1, [.int (nI pid), va_rf nx, .int ct, .int tw, .long ck, .int q47.2.2.2.2.2, va_rf se, va_rf pi])), (tp, .inr (0, [.ref a, .int q47.2.1])), (a, .inl (cB, 9400, .inl q47.1))] := hD
    refine lv_aload_n hx hb d_Writer_putOrderBody_50 rfl (lv_at hl 2 rfl) ?_
    refine lv_iload_n hx hb d_Writer_putOrderBody_51 rfl (lv_at hl 3 rfl) ?_
    refine lv_iconst (v := 2) hx hb d_Writer_putOrderBody_52 (by decide) ?_
    refine lv_iand hx hb d_Writer_putOrderBody_53 ?_
    suffices key54 : W p l e ({ frames := 4, cells := 0, slots := 0, locals := 90 }) s m ([.ref w, .int how, .long t0, .long t1]).toArray below meth cd H locs 0 0 (MQ below (va_Qv (fun (u : WQ) => WS pid w0 tot T0 (B ++ obL how t0 t1) u) (fun (u : WQ) t => zW D (A) [(w, .inr (10, [.ref tp, .ref la, .int u.2.2.1, .int u.2.2.2.1, .int u.2.2.2.2.1, .int ss])), (la, .inr (1, [.int (nI pid), va_rf nx, .int ct, .int tw, .long ck, .int u.2.2.2.2.2, va_rf se, va_rf pi])), (tp, .inr (0, [.ref a, .int u.2.1])), (a, .inl (cB, 9400, .inl u.1))] [(cB, .byte)] t) (A)) ([.ref w, .int how, .long t0, .long t1]).toArray s 0 0 (A)) (F0 m 64 ls [.int (if how &&& 2 = 0 then 0 else 128), .ref w]) by
      refine lv_if_eq (tgt := 63) hx hb d_Writer_putOrderBody_54 rfl (fun h54 => ?_) (fun h54 => ?_)
      · refine lv_iconst (v := 0) hx hb d_Writer_putOrderBody_63 (by decide) ?_
        refine z_topi (w := (if how &&& 2 = 0 then 0 else 128)) ((if_pos h54).symm) ?_
        exact key54
      · refine lv_sipush (v := 128) hx hb d_Writer_putOrderBody_57 (by decide) ?_
        refine lv_goto (tgt := 64) hx hb d_Writer_putOrderBody_60 rfl ?_
        refine z_topi (w := (if how &&& 2 = 0 then 0 else 128)) ((if_neg h54).symm) ?_
        exact key54
    refine lv_iload hx hb d_Writer_putOrderBody_64 (lv_at hl 1 rfl) ?_
    suffices key66 : W p l e ({ frames := 4, cells := 0, slots := 0, locals := 90 }) s m ([.ref w, .int how, .long t0, .long t1]).toArray below meth cd H locs 0 0 (MQ below (va_Qv (fun (u : WQ) => WS pid w0 tot T0 (B ++ obL how t0 t1) u) (fun (u : WQ) t => zW D (A) [(w, .inr (10, [.ref tp, .ref la, .int u.2.2.1, .int u.2.2.2.1, .int u.2.2.2.2.1, .int ss])), (la, .inr (1, [.int (nI pid), va_rf nx, .int ct, .int tw, .long ck, .int u.2.2.2.2.2, va_rf se, va_rf pi])), (tp, .inr (0, [.ref a, .int u.2.1])), (a, .inl (cB, 9400, .inl u.1))] [(cB, .byte)] t) (A)) ([.ref w, .int how, .long t0, .long t1]).toArray s 0 0 (A)) (F0 m 75 ls [.int (if how &&& 8 = 0 then 0 else 32), .int (if how &&& 2 = 0 then 0 else 128), .ref w]) by
      refine lv_if_eq (tgt := 74) hx hb d_Writer_putOrderBody_66 rfl (fun h66 => ?_) (fun h66 => ?_)
      · refine lv_iconst (v := 0) hx hb d_Writer_putOrderBody_74 (by decide) ?_
        refine z_topi (w := (if how &&& 8 = 0 then 0 else 32)) ((if_pos ((ob_i rfl).mp h66)).symm) ?_
        exact key66
      · refine lv_bipush (v := 32) hx hb d_Writer_putOrderBody_69 (by decide) ?_
        refine lv_goto (tgt := 75) hx hb d_Writer_putOrderBody_71 rfl ?_
        refine z_topi (w := (if how &&& 8 = 0 then 0 else 32)) ((if_neg (mt (ob_i rfl).mpr h66)).symm) ?_
        exact key66
    refine lv_ior hx hb d_Writer_putOrderBody_75 ?_
    refine lv_iload hx hb d_Writer_putOrderBody_76 (lv_at hl 0 rfl) ?_
    suffices key78 : W p l e ({ frames := 4, cells := 0, slots := 0, locals := 90 }) s m ([.ref w, .int how, .long t0, .long t1]).toArray below meth cd H locs 0 0 (MQ below (va_Qv (fun (u : WQ) => WS pid w0 tot T0 (B ++ obL how t0 t1) u) (fun (u : WQ) t => zW D (A) [(w, .inr (10, [.ref tp, .ref la, .int u.2.2.1, .int u.2.2.2.1, .int u.2.2.2.2.1, .int ss])), (la, .inr (1, [.int (nI pid), va_rf nx, .int ct, .int tw, .long ck, .int u.2.2.2.2.2, va_rf se, va_rf pi])), (tp, .inr (0, [.ref a, .int u.2.1])), (a, .inl (cB, 9400, .inl u.1))] [(cB, .byte)] t) (A)) ([.ref w, .int how, .long t0, .long t1]).toArray s 0 0 (A)) (F0 m 87 ls [.int (if how &&& 4 = 0 then 0 else 16), .int ((if how &&& 2 = 0 then 0 else 128) ||| (if how &&& 8 = 0 then 0 else 32)), .ref w]) by
      refine lv_if_eq (tgt := 86) hx hb d_Writer_putOrderBody_78 rfl (fun h78 => ?_) (fun h78 => ?_)
      · refine lv_iconst (v := 0) hx hb d_Writer_putOrderBody_86 (by decide) ?_
        refine z_topi (w := (if how &&& 4 = 0 then 0 else 16)) ((if_pos ((ob_i rfl).mp h78)).symm) ?_
        exact key78
      · refine lv_bipush (v := 16) hx hb d_Writer_putOrderBody_81 (by decide) ?_
        refine lv_goto (tgt := 87) hx hb d_Writer_putOrderBody_83 rfl ?_
        refine z_topi (w := (if how &&& 4 = 0 then 0 else 16)) ((if_neg (mt (ob_i rfl).mpr h78)).symm) ?_
        exact key78
    refine lv_ior hx hb d_Writer_putOrderBody_87 ?_
    refine lv_bipush (v := 79) hx hb d_Writer_putOrderBody_88 (by decide) ?_
    refine lv_ior hx hb d_Writer_putOrderBody_90 ?_
    refine z_topi (w := obF how) rfl ?_
    refine lv_i2l (v := (obF how).toInt64) hx hb d_Writer_putOrderBody_91 rfl ?_
    refine lv_iconst (v := 1) hx hb d_Writer_putOrderBody_92 (by decide) ?_
    have hPc := hP.sub (ws' := [(w, .inr (10, [.ref tp, .ref la, .int q47.2.2.1, .int q47.2.2.2.1, .int q47.2.2.2.2.1, .int ss])), (la, .inr (1, [.int (nI pid), va_rf nx, .int ct, .int tw, .long ck, .int q47.2.2.2.2.2, va_rf se, va_rf pi])), (tp, .inr (0, [.ref a, .int q47.2.1])), (a, .inl (cB, 9400, .inl q47.1))]) [0, 1, 2, 3] rfl
    have hKc := hK.sub (tys' := [(cB, .byte)]) [0] rfl
    have hDc := hD.sub (ws' := [(w, .inr (10, [.ref tp, .ref la, .int q47.2.2.1, .int q47.2.2.2.1, .int q47.2.2.2.2.1, .int ss])), (la, .inr (1, [.int (nI pid), va_rf nx, .int ct, .int tw, .long ck, .int q47.2.2.2.2.2, va_rf se, va_rf pi])), (tp, .inr (0, [.ref a, .int q47.2.1])), (a, .inl (cB, 9400, .inl q47.1))]) [0, 1, 2, 3] (by decide) rfl
    have hFc := va_free (wc := [(w, .inr (10, [.ref tp, .ref la, .int q47.2.2.1, .int q47.2.2.2.1, .int q47.2.2.2.2.1, .int ss])), (la, .inr (1, [.int (nI pid), va_rf nx, .int ct, .int tw, .long ck, .int q47.2.2.2.2.2, va_rf se, va_rf pi])), (tp, .inr (0, [.ref a, .int q47.2.1])), (a, .inl (cB, 9400, .inl q47.1))]) hD hS hA [0, 1, 2, 3] rfl
    refine va_callv (va_runV (As := [.long ((obF how).toInt64), .int (nI 1)]) (rest := []) ⟨hx, hb, hml, hown, hts⟩ (c_Writer_putNumber l D H.size cB w tp a q47 ss la nx se pi ct tw ck pid w0 tot T0 (B ++ bsL 127 1) ((obF how).toInt64) 1 e47 htot hT hpid hw0 (by (try simp only [List.length_append, bs_len, List.length_nil, ph_len]); omega) (by omega) (by omega)) (z_cV hN wd_988 wd_85 wd_985 hd_Writer_putNumber rfl rfl ⟨Nat.le_of_ble_eq_true rfl, Nat.le_of_ble_eq_true rfl⟩ wd_987 wd_23) (z_preVm (va_recv (ci := 10) (q0 := 0) hK hP rfl rfl) hPc hKc hN hDc) rfl rfl hl.1 rfl (lv_room (Nat.le_of_ble_eq_true rfl)) d_Writer_putOrderBody_93 ⟨Nat.le_of_ble_eq_true rfl, Nat.le_of_ble_eq_true rfl⟩) hS (fun q _ h => hFc q h) hFc (fun q93 t H locs ht hvm e93 hB hz1 hk1 hS => ?_)
    obtain ⟨hP1, hK1, hD1⟩ := hB
    rw [ht] at hP1
    obtain ⟨hP, hD⟩ := va_join (wr := []) (w1 := [(w, .inr (10, [.ref tp, .ref la, .int q93.2.2.1, .int q93.2.2.2.1, .int q93.2.2.2.2.1, .int ss])), (la, .inr (1, [.int (nI pid), va_rf nx, .int ct, .int tw, .long ck, .int q93.2.2.2.2.2, va_rf se, va_rf pi])), (tp, .inr (0, [.ref a, .int q93.2.1])), (a, .inl (cB, 9400, .inl q93.1))]) hP hD [0, 1, 2, 3] [] rfl rfl (by decide) (by decide) hk1 hFc hP1 hD1
    clear hk1 hP1 hD1 hFc hPc hDc hz1
    have hP : va_P D classes [(w, .inr (10, [.ref tp, .ref la, .int q93.2.2.1, .int q93.2.2.2.1, .int q93.2.2.2.2.1, .int ss])), (la, .inr (1, [.int (nI pid), va_rf nx, .int ct, .int tw, .long ck, .int q93.2.2.2.2.2, va_rf se, va_rf pi])), (tp, .inr (0, [.ref a, .int q93.2.1])), (a, .inl (cB, 9400, .inl q93.1))] H := hP
    have hD : va_D A [(w, .inr (10, [.ref tp, .ref la, .int q93.2.2.1, .int q93.2.2.2.1, .int q93.2.2.2.2.1, .int ss])), (la, .inr (1, [.int (nI pid), va_rf nx, .int ct, .int tw, .long ck, .int q93.2.2.2.2.2, va_rf se, va_rf pi])), (tp, .inr (0, [.ref a, .int q93.2.1])), (a, .inl (cB, 9400, .inl q93.1))] := hD
    refine lv_iload hx hb d_Writer_putOrderBody_96 (lv_at hl 0 rfl) ?_
    refine lv_if_ne (tgt := 117) hx hb d_Writer_putOrderBody_98 rfl (fun h98 => ?_) (fun h98 => ?_)
    · have h4 : ¬ how &&& 4 = 0 := mt (ob_i rfl).mpr h98
      refine lv_iload hx hb d_Writer_putOrderBody_117 (lv_at hl 0 rfl) ?_
      refine lv_if_ne (tgt := 130) hx hb d_Writer_putOrderBody_119 rfl (fun h119 => ?_) (fun h119 => ?_)
      · have h4b : ¬ how &&& 4 = 0 := mt (ob_i rfl).mpr h119
        refine lv_iload hx hb d_Writer_putOrderBody_130 (lv_at hl 1 rfl) ?_
        refine lv_if_eq (tgt := 153) hx hb d_Writer_putOrderBody_132 rfl (fun h132 => ?_) (fun h132 => ?_)
        · have h8 : how &&& 8 = 0 := (ob_i rfl).mp h132
          refine lv_aload_n hx hb d_Writer_putOrderBody_153 rfl (lv_at hl 2 rfl) ?_
          refine lv_ldc2 hx hb hown (hts _ wd_1072) d_Writer_putOrderBody_154 ?_
          refine lv_iconst (v := 4) hx hb d_Writer_putOrderBody_157 (by decide) ?_
          have hPc := hP.sub (ws' := [(w, .inr (10, [.ref tp, .ref la, .int q93.2.2.1, .int q93.2.2.2.1, .int q93.2.2.2.2.1, .int ss])), (la, .inr (1, [.int (nI pid), va_rf nx, .int ct, .int tw, .long ck, .int q93.2.2.2.2.2, va_rf se, va_rf pi])), (tp, .inr (0, [.ref a, .int q93.2.1])), (a, .inl (cB, 9400, .inl q93.1))]) [0, 1, 2, 3] rfl
          have hKc := hK.sub (tys' := [(cB, .byte)]) [0] rfl
          have hDc := hD.sub (ws' := [(w, .inr (10, [.ref tp, .ref la, .int q93.2.2.1, .int q93.2.2.2.1, .int q93.2.2.2.2.1, .int ss])), (la, .inr (1, [.int (nI pid), va_rf nx, .int ct, .int tw, .long ck, .int q93.2.2.2.2.2, va_rf se, va_rf pi])), (tp, .inr (0, [.ref a, .int q93.2.1])), (a, .inl (cB, 9400, .inl q93.1))]) [0, 1, 2, 3] (by decide) rfl
          have hFc := va_free (wc := [(w, .inr (10, [.ref tp, .ref la, .int q93.2.2.1, .int q93.2.2.2.1, .int q93.2.2.2.2.1, .int ss])), (la, .inr (1, [.int (nI pid), va_rf nx, .int ct, .int tw, .long ck, .int q93.2.2.2.2.2, va_rf se, va_rf pi])), (tp, .inr (0, [.ref a, .int q93.2.1])), (a, .inl (cB, 9400, .inl q93.1))]) hD hS hA [0, 1, 2, 3] rfl
          refine va_callv (va_runV (As := [.long (-1), .int (nI 4)]) (rest := []) ⟨hx, hb, hml, hown, hts⟩ (c_Writer_putNumber l D H.size cB w tp a q93 ss la nx se pi ct tw ck pid w0 tot T0 ((B ++ bsL 127 1) ++ bsL ((obF how).toInt64) 1) (-1) 4 e93 htot hT hpid hw0 (by (try simp only [List.length_append, bs_len, List.length_nil, ph_len]); omega) (by omega) (by omega)) (z_cV hN wd_988 wd_85 wd_985 hd_Writer_putNumber rfl rfl ⟨Nat.le_of_ble_eq_true rfl, Nat.le_of_ble_eq_true rfl⟩ wd_987 wd_23) (z_preVm (va_recv (ci := 10) (q0 := 0) hK hP rfl rfl) hPc hKc hN hDc) rfl rfl hl.1 rfl (lv_room (Nat.le_of_ble_eq_true rfl)) d_Writer_putOrderBody_158 ⟨Nat.le_of_ble_eq_true rfl, Nat.le_of_ble_eq_true rfl⟩) hS (fun q _ h => hFc q h) hFc (fun q158 t H locs ht hvm e158 hB hz1 hk1 hS => ?_)
          obtain ⟨hP1, hK1, hD1⟩ := hB
          rw [ht] at hP1
          obtain ⟨hP, hD⟩ := va_join (wr := []) (w1 := [(w, .inr (10, [.ref tp, .ref la, .int q158.2.2.1, .int q158.2.2.2.1, .int q158.2.2.2.2.1, .int ss])), (la, .inr (1, [.int (nI pid), va_rf nx, .int ct, .int tw, .long ck, .int q158.2.2.2.2.2, va_rf se, va_rf pi])), (tp, .inr (0, [.ref a, .int q158.2.1])), (a, .inl (cB, 9400, .inl q158.1))]) hP hD [0, 1, 2, 3] [] rfl rfl (by decide) (by decide) hk1 hFc hP1 hD1
          clear hk1 hP1 hD1 hFc hPc hDc hz1
          have hP : va_P D classes [(w, .inr (10, [.ref tp, .ref la, .int q158.2.2.1, .int q158.2.2.2.1, .int q158.2.2.2.2.1, .int ss])), (la, .inr (1, [.int (nI pid), va_rf nx, .int ct, .int tw, .long ck, .int q158.2.2.2.2.2, va_rf se, va_rf pi])), (tp, .inr (0, [.ref a, .int q158.2.1])), (a, .inl (cB, 9400, .inl q158.1))] H := hP
          have hD : va_D A [(w, .inr (10, [.ref tp, .ref la, .int q158.2.2.1, .int q158.2.2.2.1, .int q158.2.2.2.2.1, .int ss])), (la, .inr (1, [.int (nI pid), va_rf nx, .int ct, .int tw, .long ck, .int q158.2.2.2.2.2, va_rf se, va_rf pi])), (tp, .inr (0, [.ref a, .int q158.2.1])), (a, .inl (cB, 9400, .inl q158.1))] := hD
          have hP9 := hP.sub (ws' := [(w, .inr (10, [.ref tp, .ref la, .int q158.2.2.1, .int q158.2.2.2.1, .int q158.2.2.2.2.1, .int ss])), (la, .inr (1, [.int (nI pid), va_rf nx, .int ct, .int tw, .long ck, .int q158.2.2.2.2.2, va_rf se, va_rf pi])), (tp, .inr (0, [.ref a, .int q158.2.1])), (a, .inl (cB, 9400, .inl q158.1))]) [0, 1, 2, 3] rfl
          have hD9 := hD.sub (ws' := [(w, .inr (10, [.ref tp, .ref la, .int q158.2.2.1, .int q158.2.2.2.1, .int q158.2.2.2.2.1, .int ss])), (la, .inr (1, [.int (nI pid), va_rf nx, .int ct, .int tw, .long ck, .int q158.2.2.2.2.2, va_rf se, va_rf pi])), (tp, .inr (0, [.ref a, .int q158.2.1])), (a, .inl (cB, 9400, .inl q158.1))]) [0, 1, 2, 3] (by decide) rfl
          have hK9 := hK.sub (tys' := [(cB, .byte)]) [0] rfl
          exact W.vret hx hb hr (fun t ht hW => ⟨⟨q158, rfl, (by have hz := e158; unfold obL; first | (exfalso; exact absurd h4b h4) | (exfalso; exact absurd h4 h4b) | (simp only [h1, h4, h8, if_true, if_false]; first | (rw [if_pos h105]; simpa only [List.append_assoc, List.append_nil, List.nil_append] using hz) | (rw [if_neg h105]; simpa only [List.append_assoc, List.append_nil, List.nil_append] using hz) | (simpa only [List.append_assoc, List.append_nil, List.nil_append] using hz))), ⟨by rw [ht]; exact hP9, va_K.moved hW.alike hK9, hD9⟩⟩, hS.F ht⟩) hS.2.2 d_Writer_putOrderBody_161
        · have h8 : ¬ how &&& 8 = 0 := mt (ob_i rfl).mpr h132
          refine lv_aload_n hx hb d_Writer_putOrderBody_135 rfl (lv_at hl 2 rfl) ?_
          refine lv_iload_n hx hb d_Writer_putOrderBody_136 rfl (lv_at hl 3 rfl) ?_
          refine lv_bipush (v := 16) hx hb d_Writer_putOrderBody_137 (by decide) ?_
          refine lv_iand hx hb d_Writer_putOrderBody_139 ?_
          suffices key140 : W p l e ({ frames := 4, cells := 0, slots := 0, locals := 90 }) s m ([.ref w, .int how, .long t0, .long t1]).toArray below meth cd H locs 0 0 (MQ below (va_Qv (fun (u : WQ) => WS pid w0 tot T0 (B ++ obL how t0 t1) u) (fun (u : WQ) t => zW D (A) [(w, .inr (10, [.ref tp, .ref la, .int u.2.2.1, .int u.2.2.2.1, .int u.2.2.2.2.1, .int ss])), (la, .inr (1, [.int (nI pid), va_rf nx, .int ct, .int tw, .long ck, .int u.2.2.2.2.2, va_rf se, va_rf pi])), (tp, .inr (0, [.ref a, .int u.2.1])), (a, .inl (cB, 9400, .inl u.1))] [(cB, .byte)] t) (A)) ([.ref w, .int how, .long t0, .long t1]).toArray s 0 0 (A)) (F0 m 148 ls [.int (if how &&& 16 = 0 then 0 else 1), .ref w]) by
            refine lv_if_eq (tgt := 147) hx hb d_Writer_putOrderBody_140 rfl (fun h140 => ?_) (fun h140 => ?_)
            · refine lv_iconst (v := 0) hx hb d_Writer_putOrderBody_147 (by decide) ?_
              refine z_topi (w := (if how &&& 16 = 0 then 0 else 1)) ((if_pos h140).symm) ?_
              exact key140
            · refine lv_iconst (v := 1) hx hb d_Writer_putOrderBody_143 (by decide) ?_
              refine lv_goto (tgt := 148) hx hb d_Writer_putOrderBody_144 rfl ?_
              refine z_topi (w := (if how &&& 16 = 0 then 0 else 1)) ((if_neg h140).symm) ?_
              exact key140
          refine lv_lload hx hb d_Writer_putOrderBody_148 (lv_at hl 5 rfl) ?_
          have hPc := hP.sub (ws' := [(w, .inr (10, [.ref tp, .ref la, .int q93.2.2.1, .int q93.2.2.2.1, .int q93.2.2.2.2.1, .int ss])), (la, .inr (1, [.int (nI pid), va_rf nx, .int ct, .int tw, .long ck, .int q93.2.2.2.2.2, va_rf se, va_rf pi])), (tp, .inr (0, [.ref a, .int q93.2.1])), (a, .inl (cB, 9400, .inl q93.1))]) [0, 1, 2, 3] rfl
          have hKc := hK.sub (tys' := [(cB, .byte)]) [0] rfl
          have hDc := hD.sub (ws' := [(w, .inr (10, [.ref tp, .ref la, .int q93.2.2.1, .int q93.2.2.2.1, .int q93.2.2.2.2.1, .int ss])), (la, .inr (1, [.int (nI pid), va_rf nx, .int ct, .int tw, .long ck, .int q93.2.2.2.2.2, va_rf se, va_rf pi])), (tp, .inr (0, [.ref a, .int q93.2.1])), (a, .inl (cB, 9400, .inl q93.1))]) [0, 1, 2, 3] (by decide) rfl
          have hFc := va_free (wc := [(w, .inr (10, [.ref tp, .ref la, .int q93.2.2.1, .int q93.2.2.2.1, .int q93.2.2.2.2.1, .int ss])), (la, .inr (1, [.int (nI pid), va_rf nx, .int ct, .int tw, .long ck, .int q93.2.2.2.2.2, va_rf se, va_rf pi])), (tp, .inr (0, [.ref a, .int q93.2.1])), (a, .inl (cB, 9400, .inl q93.1))]) hD hS hA [0, 1, 2, 3] rfl
          refine va_callv (va_runV (As := [.int (if how &&& 16 = 0 then 0 else 1), .long t1]) (rest := []) ⟨hx, hb, hml, hown, hts⟩ (c_Writer_putFlagAndTime l D H.size cB w tp a q93 ss la nx se pi ct tw ck pid w0 tot T0 ((B ++ bsL 127 1) ++ bsL ((obF how).toInt64) 1) (if how &&& 16 = 0 then 0 else 1) t1 e93 htot hT hpid hw0 (by (try simp only [List.length_append, bs_len, List.length_nil, ph_len]); omega)) (z_cV hN wd_1069 wd_85 wd_1066 hd_Writer_putFlagAndTime rfl rfl ⟨Nat.le_of_ble_eq_true rfl, Nat.le_of_ble_eq_true rfl⟩ wd_1068 wd_27) (z_preVm (va_recv (ci := 10) (q0 := 0) hK hP rfl rfl) hPc hKc hN hDc) rfl rfl hl.1 rfl (lv_room (Nat.le_of_ble_eq_true rfl)) d_Writer_putOrderBody_150 ⟨Nat.le_of_ble_eq_true rfl, Nat.le_of_ble_eq_true rfl⟩) hS (fun q _ h => hFc q h) hFc (fun q150 t H locs ht hvm e150 hB hz1 hk1 hS => ?_)
          obtain ⟨hP1, hK1, hD1⟩ := hB
          rw [ht] at hP1
          obtain ⟨hP, hD⟩ := va_join (wr := []) (w1 := [(w, .inr (10, [.ref tp, .ref la, .int q150.2.2.1, .int q150.2.2.2.1, .int q150.2.2.2.2.1, .int ss])), (la, .inr (1, [.int (nI pid), va_rf nx, .int ct, .int tw, .long ck, .int q150.2.2.2.2.2, va_rf se, va_rf pi])), (tp, .inr (0, [.ref a, .int q150.2.1])), (a, .inl (cB, 9400, .inl q150.1))]) hP hD [0, 1, 2, 3] [] rfl rfl (by decide) (by decide) hk1 hFc hP1 hD1
          clear hk1 hP1 hD1 hFc hPc hDc hz1
          have hP : va_P D classes [(w, .inr (10, [.ref tp, .ref la, .int q150.2.2.1, .int q150.2.2.2.1, .int q150.2.2.2.2.1, .int ss])), (la, .inr (1, [.int (nI pid), va_rf nx, .int ct, .int tw, .long ck, .int q150.2.2.2.2.2, va_rf se, va_rf pi])), (tp, .inr (0, [.ref a, .int q150.2.1])), (a, .inl (cB, 9400, .inl q150.1))] H := hP
          have hD : va_D A [(w, .inr (10, [.ref tp, .ref la, .int q150.2.2.1, .int q150.2.2.2.1, .int q150.2.2.2.2.1, .int ss])), (la, .inr (1, [.int (nI pid), va_rf nx, .int ct, .int tw, .long ck, .int q150.2.2.2.2.2, va_rf se, va_rf pi])), (tp, .inr (0, [.ref a, .int q150.2.1])), (a, .inl (cB, 9400, .inl q150.1))] := hD
          refine lv_aload_n hx hb d_Writer_putOrderBody_153 rfl (lv_at hl 2 rfl) ?_
          refine lv_ldc2 hx hb hown (hts _ wd_1072) d_Writer_putOrderBody_154 ?_
          refine lv_iconst (v := 4) hx hb d_Writer_putOrderBody_157 (by decide) ?_
          have hPc := hP.sub (ws' := [(w, .inr (10, [.ref tp, .ref la, .int q150.2.2.1, .int q150.2.2.2.1, .int q150.2.2.2.2.1, .int ss])), (la, .inr (1, [.int (nI pid), va_rf nx, .int ct, .int tw, .long ck, .int q150.2.2.2.2.2, va_rf se, va_rf pi])), (tp, .inr (0, [.ref a, .int q150.2.1])), (a, .inl (cB, 9400, .inl q150.1))]) [0, 1, 2, 3] rfl
          have hKc := hK.sub (tys' := [(cB, .byte)]) [0] rfl
          have hDc := hD.sub (ws' := [(w, .inr (10, [.ref tp, .ref la, .int q150.2.2.1, .int q150.2.2.2.1, .int q150.2.2.2.2.1, .int ss])), (la, .inr (1, [.int (nI pid), va_rf nx, .int ct, .int tw, .long ck, .int q150.2.2.2.2.2, va_rf se, va_rf pi])), (tp, .inr (0, [.ref a, .int q150.2.1])), (a, .inl (cB, 9400, .inl q150.1))]) [0, 1, 2, 3] (by decide) rfl
          have hFc := va_free (wc := [(w, .inr (10, [.ref tp, .ref la, .int q150.2.2.1, .int q150.2.2.2.1, .int q150.2.2.2.2.1, .int ss])), (la, .inr (1, [.int (nI pid), va_rf nx, .int ct, .int tw, .long ck, .int q150.2.2.2.2.2, va_rf se, va_rf pi])), (tp, .inr (0, [.ref a, .int q150.2.1])), (a, .inl (cB, 9400, .inl q150.1))]) hD hS hA [0, 1, 2, 3] rfl
          refine va_callv (va_runV (As := [.long (-1), .int (nI 4)]) (rest := []) ⟨hx, hb, hml, hown, hts⟩ (c_Writer_putNumber l D H.size cB w tp a q150 ss la nx se pi ct tw ck pid w0 tot T0 (((B ++ bsL 127 1) ++ bsL ((obF how).toInt64) 1) ++ bsL (ftV (if how &&& 16 = 0 then 0 else 1) t1) 5) (-1) 4 e150 htot hT hpid hw0 (by (try simp only [List.length_append, bs_len, List.length_nil, ph_len]); omega) (by omega) (by omega)) (z_cV hN wd_988 wd_85 wd_985 hd_Writer_putNumber rfl rfl ⟨Nat.le_of_ble_eq_true rfl, Nat.le_of_ble_eq_true rfl⟩ wd_987 wd_23) (z_preVm (va_recv (ci := 10) (q0 := 0) hK hP rfl rfl) hPc hKc hN hDc) rfl rfl hl.1 rfl (lv_room (Nat.le_of_ble_eq_true rfl)) d_Writer_putOrderBody_158 ⟨Nat.le_of_ble_eq_true rfl, Nat.le_of_ble_eq_true rfl⟩) hS (fun q _ h => hFc q h) hFc (fun q158 t H locs ht hvm e158 hB hz1 hk1 hS => ?_)
          obtain ⟨hP1, hK1, hD1⟩ := hB
          rw [ht] at hP1
          obtain ⟨hP, hD⟩ := va_join (wr := []) (w1 := [(w, .inr (10, [.ref tp, .ref la, .int q158.2.2.1, .int q158.2.2.2.1, .int q158.2.2.2.2.1, .int ss])), (la, .inr (1, [.int (nI pid), va_rf nx, .int ct, .int tw, .long ck, .int q158.2.2.2.2.2, va_rf se, va_rf pi])), (tp, .inr (0, [.ref a, .int q158.2.1])), (a, .inl (cB, 9400, .inl q158.1))]) hP hD [0, 1, 2, 3] [] rfl rfl (by decide) (by decide) hk1 hFc hP1 hD1
          clear hk1 hP1 hD1 hFc hPc hDc hz1
          have hP : va_P D classes [(w, .inr (10, [.ref tp, .ref la, .int q158.2.2.1, .int q158.2.2.2.1, .int q158.2.2.2.2.1, .int ss])), (la, .inr (1, [.int (nI pid), va_rf nx, .int ct, .int tw, .long ck, .int q158.2.2.2.2.2, va_rf se, va_rf pi])), (tp, .inr (0, [.ref a, .int q158.2.1])), (a, .inl (cB, 9400, .inl q158.1))] H := hP
          have hD : va_D A [(w, .inr (10, [.ref tp, .ref la, .int q158.2.2.1, .int q158.2.2.2.1, .int q158.2.2.2.2.1, .int ss])), (la, .inr (1, [.int (nI pid), va_rf nx, .int ct, .int tw, .long ck, .int q158.2.2.2.2.2, va_rf se, va_rf pi])), (tp, .inr (0, [.ref a, .int q158.2.1])), (a, .inl (cB, 9400, .inl q158.1))] := hD
          have hP9 := hP.sub (ws' := [(w, .inr (10, [.ref tp, .ref la, .int q158.2.2.1, .int q158.2.2.2.1, .int q158.2.2.2.2.1, .int ss])), (la, .inr (1, [.int (nI pid), va_rf nx, .int ct, .int tw, .long ck, .int q158.2.2.2.2.2, va_rf se, va_rf pi])), (tp, .inr (0, [.ref a, .int q158.2.1])), (a, .inl (cB, 9400, .inl q158.1))]) [0, 1, 2, 3] rfl
          have hD9 := hD.sub (ws' := [(w, .inr (10, [.ref tp, .ref la, .int q158.2.2.1, .int q158.2.2.2.1, .int q158.2.2.2.2.1, .int ss])), (la, .inr (1, [.int (nI pid), va_rf nx, .int ct, .int tw, .long ck, .int q158.2.2.2.2.2, va_rf se, va_rf pi])), (tp, .inr (0, [.ref a, .int q158.2.1])), (a, .inl (cB, 9400, .inl q158.1))]) [0, 1, 2, 3] (by decide) rfl
          have hK9 := hK.sub (tys' := [(cB, .byte)]) [0] rfl
          exact W.vret hx hb hr (fun t ht hW => ⟨⟨q158, rfl, (by have hz := e158; unfold obL; first | (exfalso; exact absurd h4b h4) | (exfalso; exact absurd h4 h4b) | (simp only [h1, h4, h8, if_true, if_false]; first | (rw [if_pos h105]; simpa only [List.append_assoc, List.append_nil, List.nil_append] using hz) | (rw [if_neg h105]; simpa only [List.append_assoc, List.append_nil, List.nil_append] using hz) | (simpa only [List.append_assoc, List.append_nil, List.nil_append] using hz))), ⟨by rw [ht]; exact hP9, va_K.moved hW.alike hK9, hD9⟩⟩, hS.F ht⟩) hS.2.2 d_Writer_putOrderBody_161
      · have h4b : how &&& 4 = 0 := (ob_i rfl).mp h119
        refine lv_aload_n hx hb d_Writer_putOrderBody_122 rfl (lv_at hl 2 rfl) ?_
        refine lv_ldc2 hx hb hown (hts _ wd_1079) d_Writer_putOrderBody_123 ?_
        refine lv_iconst (v := 1) hx hb d_Writer_putOrderBody_126 (by decide) ?_
        have hPc := hP.sub (ws' := [(w, .inr (10, [.ref tp, .ref la, .int q93.2.2.1, .int q93.2.2.2.1, .int q93.2.2.2.2.1, .int ss])), (la, .inr (1, [.int (nI pid), va_rf nx, .int ct, .int tw, .long ck, .int q93.2.2.2.2.2, va_rf se, va_rf pi])), (tp, .inr (0, [.ref a, .int q93.2.1])), (a, .inl (cB, 9400, .inl q93.1))]) [0, 1, 2, 3] rfl
        have hKc := hK.sub (tys' := [(cB, .byte)]) [0] rfl
        have hDc := hD.sub (ws' := [(w, .inr (10, [.ref tp, .ref la, .int q93.2.2.1, .int q93.2.2.2.1, .int q93.2.2.2.2.1, .int ss])), (la, .inr (1, [.int (nI pid), va_rf nx, .int ct, .int tw, .long ck, .int q93.2.2.2.2.2, va_rf se, va_rf pi])), (tp, .inr (0, [.ref a, .int q93.2.1])), (a, .inl (cB, 9400, .inl q93.1))]) [0, 1, 2, 3] (by decide) rfl
        have hFc := va_free (wc := [(w, .inr (10, [.ref tp, .ref la, .int q93.2.2.1, .int q93.2.2.2.1, .int q93.2.2.2.2.1, .int ss])), (la, .inr (1, [.int (nI pid), va_rf nx, .int ct, .int tw, .long ck, .int q93.2.2.2.2.2, va_rf se, va_rf pi])), (tp, .inr (0, [.ref a, .int q93.2.1])), (a, .inl (cB, 9400, .inl q93.1))]) hD hS hA [0, 1, 2, 3] rfl
        refine va_callv (va_runV (As := [.long 127, .int (nI 1)]) (rest := []) ⟨hx, hb, hml, hown, hts⟩ (c_Writer_putNumber l D H.size cB w tp a q93 ss la nx se pi ct tw ck pid w0 tot T0 ((B ++ bsL 127 1) ++ bsL ((obF how).toInt64) 1) 127 1 e93 htot hT hpid hw0 (by (try simp only [List.length_append, bs_len, List.length_nil, ph_len]); omega) (by omega) (by omega)) (z_cV hN wd_988 wd_85 wd_985 hd_Writer_putNumber rfl rfl ⟨Nat.le_of_ble_eq_true rfl, Nat.le_of_ble_eq_true rfl⟩ wd_987 wd_23) (z_preVm (va_recv (ci := 10) (q0 := 0) hK hP rfl rfl) hPc hKc hN hDc) rfl rfl hl.1 rfl (lv_room (Nat.le_of_ble_eq_true rfl)) d_Writer_putOrderBody_127 ⟨Nat.le_of_ble_eq_true rfl, Nat.le_of_ble_eq_true rfl⟩) hS (fun q _ h => hFc q h) hFc (fun q127 t H locs ht hvm e127 hB hz1 hk1 hS => ?_)
        obtain ⟨hP1, hK1, hD1⟩ := hB
        rw [ht] at hP1
        obtain ⟨hP, hD⟩ := va_join (wr := []) (w1 := [(w, .inr (10, [.ref tp, .ref la, .int q127.2.2.1, .int q127.2.2.2.1, .int q127.2.2.2.2.1, .int ss])), (la, .inr (1, [.int (nI pid), va_rf nx, .int ct, .int tw, .long ck, .int q127.2.2.2.2.2, va_rf se, va_rf pi])), (tp, .inr (0, [.ref a, .int q127.2.1])), (a, .inl (cB, 9400, .inl q127.1))]) hP hD [0, 1, 2, 3] [] rfl rfl (by decide) (by decide) hk1 hFc hP1 hD1
        clear hk1 hP1 hD1 hFc hPc hDc hz1
        have hP : va_P D classes [(w, .inr (10, [.ref tp, .ref la, .int q127.2.2.1, .int q127.2.2.2.1, .int q127.2.2.2.2.1, .int ss])), (la, .inr (1, [.int (nI pid), va_rf nx, .int ct, .int tw, .long ck, .int q127.2.2.2.2.2, va_rf se, va_rf pi])), (tp, .inr (0, [.ref a, .int q127.2.1])), (a, .inl (cB, 9400, .inl q127.1))] H := hP
        have hD : va_D A [(w, .inr (10, [.ref tp, .ref la, .int q127.2.2.1, .int q127.2.2.2.1, .int q127.2.2.2.2.1, .int ss])), (la, .inr (1, [.int (nI pid), va_rf nx, .int ct, .int tw, .long ck, .int q127.2.2.2.2.2, va_rf se, va_rf pi])), (tp, .inr (0, [.ref a, .int q127.2.1])), (a, .inl (cB, 9400, .inl q127.1))] := hD
        refine lv_iload hx hb d_Writer_putOrderBody_130 (lv_at hl 1 rfl) ?_
        refine lv_if_eq (tgt := 153) hx hb d_Writer_putOrderBody_132 rfl (fun h132 => ?_) (fun h132 => ?_)
        · have h8 : how &&& 8 = 0 := (ob_i rfl).mp h132
          refine lv_aload_n hx hb d_Writer_putOrderBody_153 rfl (lv_at hl 2 rfl) ?_
          refine lv_ldc2 hx hb hown (hts _ wd_1072) d_Writer_putOrderBody_154 ?_
          refine lv_iconst (v := 4) hx hb d_Writer_putOrderBody_157 (by decide) ?_
          have hPc := hP.sub (ws' := [(w, .inr (10, [.ref tp, .ref la, .int q127.2.2.1, .int q127.2.2.2.1, .int q127.2.2.2.2.1, .int ss])), (la, .inr (1, [.int (nI pid), va_rf nx, .int ct, .int tw, .long ck, .int q127.2.2.2.2.2, va_rf se, va_rf pi])), (tp, .inr (0, [.ref a, .int q127.2.1])), (a, .inl (cB, 9400, .inl q127.1))]) [0, 1, 2, 3] rfl
          have hKc := hK.sub (tys' := [(cB, .byte)]) [0] rfl
          have hDc := hD.sub (ws' := [(w, .inr (10, [.ref tp, .ref la, .int q127.2.2.1, .int q127.2.2.2.1, .int q127.2.2.2.2.1, .int ss])), (la, .inr (1, [.int (nI pid), va_rf nx, .int ct, .int tw, .long ck, .int q127.2.2.2.2.2, va_rf se, va_rf pi])), (tp, .inr (0, [.ref a, .int q127.2.1])), (a, .inl (cB, 9400, .inl q127.1))]) [0, 1, 2, 3] (by decide) rfl
          have hFc := va_free (wc := [(w, .inr (10, [.ref tp, .ref la, .int q127.2.2.1, .int q127.2.2.2.1, .int q127.2.2.2.2.1, .int ss])), (la, .inr (1, [.int (nI pid), va_rf nx, .int ct, .int tw, .long ck, .int q127.2.2.2.2.2, va_rf se, va_rf pi])), (tp, .inr (0, [.ref a, .int q127.2.1])), (a, .inl (cB, 9400, .inl q127.1))]) hD hS hA [0, 1, 2, 3] rfl
          refine va_callv (va_runV (As := [.long (-1), .int (nI 4)]) (rest := []) ⟨hx, hb, hml, hown, hts⟩ (c_Writer_putNumber l D H.size cB w tp a q127 ss la nx se pi ct tw ck pid w0 tot T0 (((B ++ bsL 127 1) ++ bsL ((obF how).toInt64) 1) ++ bsL 127 1) (-1) 4 e127 htot hT hpid hw0 (by (try simp only [List.length_append, bs_len, List.length_nil, ph_len]); omega) (by omega) (by omega)) (z_cV hN wd_988 wd_85 wd_985 hd_Writer_putNumber rfl rfl ⟨Nat.le_of_ble_eq_true rfl, Nat.le_of_ble_eq_true rfl⟩ wd_987 wd_23) (z_preVm (va_recv (ci := 10) (q0 := 0) hK hP rfl rfl) hPc hKc hN hDc) rfl rfl hl.1 rfl (lv_room (Nat.le_of_ble_eq_true rfl)) d_Writer_putOrderBody_158 ⟨Nat.le_of_ble_eq_true rfl, Nat.le_of_ble_eq_true rfl⟩) hS (fun q _ h => hFc q h) hFc (fun q158 t H locs ht hvm e158 hB hz1 hk1 hS => ?_)
          obtain ⟨hP1, hK1, hD1⟩ := hB
          rw [ht] at hP1
          obtain ⟨hP, hD⟩ := va_join (wr := []) (w1 := [(w, .inr (10, [.ref tp, .ref la, .int q158.2.2.1, .int q158.2.2.2.1, .int q158.2.2.2.2.1, .int ss])), (la, .inr (1, [.int (nI pid), va_rf nx, .int ct, .int tw, .long ck, .int q158.2.2.2.2.2, va_rf se, va_rf pi])), (tp, .inr (0, [.ref a, .int q158.2.1])), (a, .inl (cB, 9400, .inl q158.1))]) hP hD [0, 1, 2, 3] [] rfl rfl (by decide) (by decide) hk1 hFc hP1 hD1
          clear hk1 hP1 hD1 hFc hPc hDc hz1
          have hP : va_P D classes [(w, .inr (10, [.ref tp, .ref la, .int q158.2.2.1, .int q158.2.2.2.1, .int q158.2.2.2.2.1, .int ss])), (la, .inr (1, [.int (nI pid), va_rf nx, .int ct, .int tw, .long ck, .int q158.2.2.2.2.2, va_rf se, va_rf pi])), (tp, .inr (0, [.ref a, .int q158.2.1])), (a, .inl (cB, 9400, .inl q158.1))] H := hP
          have hD : va_D A [(w, .inr (10, [.ref tp, .ref la, .int q158.2.2.1, .int q158.2.2.2.1, .int q158.2.2.2.2.1, .int ss])), (la, .inr (1, [.int (nI pid), va_rf nx, .int ct, .int tw, .long ck, .int q158.2.2.2.2.2, va_rf se, va_rf pi])), (tp, .inr (0, [.ref a, .int q158.2.1])), (a, .inl (cB, 9400, .inl q158.1))] := hD
          have hP9 := hP.sub (ws' := [(w, .inr (10, [.ref tp, .ref la, .int q158.2.2.1, .int q158.2.2.2.1, .int q158.2.2.2.2.1, .int ss])), (la, .inr (1, [.int (nI pid), va_rf nx, .int ct, .int tw, .long ck, .int q158.2.2.2.2.2, va_rf se, va_rf pi])), (tp, .inr (0, [.ref a, .int q158.2.1])), (a, .inl (cB, 9400, .inl q158.1))]) [0, 1, 2, 3] rfl
          have hD9 := hD.sub (ws' := [(w, .inr (10, [.ref tp, .ref la, .int q158.2.2.1, .int q158.2.2.2.1, .int q158.2.2.2.2.1, .int ss])), (la, .inr (1, [.int (nI pid), va_rf nx, .int ct, .int tw, .long ck, .int q158.2.2.2.2.2, va_rf se, va_rf pi])), (tp, .inr (0, [.ref a, .int q158.2.1])), (a, .inl (cB, 9400, .inl q158.1))]) [0, 1, 2, 3] (by decide) rfl
          have hK9 := hK.sub (tys' := [(cB, .byte)]) [0] rfl
          exact W.vret hx hb hr (fun t ht hW => ⟨⟨q158, rfl, (by have hz := e158; unfold obL; first | (exfalso; exact absurd h4b h4) | (exfalso; exact absurd h4 h4b) | (simp only [h1, h4, h8, if_true, if_false]; first | (rw [if_pos h105]; simpa only [List.append_assoc, List.append_nil, List.nil_append] using hz) | (rw [if_neg h105]; simpa only [List.append_assoc, List.append_nil, List.nil_append] using hz) | (simpa only [List.append_assoc, List.append_nil, List.nil_append] using hz))), ⟨by rw [ht]; exact hP9, va_K.moved hW.alike hK9, hD9⟩⟩, hS.F ht⟩) hS.2.2 d_Writer_putOrderBody_161
        · have h8 : ¬ how &&& 8 = 0 := mt (ob_i rfl).mpr h132
          refine lv_aload_n hx hb d_Writer_putOrderBody_135 rfl (lv_at hl 2 rfl) ?_
          refine lv_iload_n hx hb d_Writer_putOrderBody_136 rfl (lv_at hl 3 rfl) ?_
          refine lv_bipush (v := 16) hx hb d_Writer_putOrderBody_137 (by decide) ?_
          refine lv_iand hx hb d_Writer_putOrderBody_139 ?_
          suffices key140 : W p l e ({ frames := 4, cells := 0, slots := 0, locals := 90 }) s m ([.ref w, .int how, .long t0, .long t1]).toArray below meth cd H locs 0 0 (MQ below (va_Qv (fun (u : WQ) => WS pid w0 tot T0 (B ++ obL how t0 t1) u) (fun (u : WQ) t => zW D (A) [(w, .inr (10, [.ref tp, .ref la, .int u.2.2.1, .int u.2.2.2.1, .int u.2.2.2.2.1, .int ss])), (la, .inr (1, [.int (nI pid), va_rf nx, .int ct, .int tw, .long ck, .int u.2.2.2.2.2, va_rf se, va_rf pi])), (tp, .inr (0, [.ref a, .int u.2.1])), (a, .inl (cB, 9400, .inl u.1))] [(cB, .byte)] t) (A)) ([.ref w, .int how, .long t0, .long t1]).toArray s 0 0 (A)) (F0 m 148 ls [.int (if how &&& 16 = 0 then 0 else 1), .ref w]) by
            refine lv_if_eq (tgt := 147) hx hb d_Writer_putOrderBody_140 rfl (fun h140 => ?_) (fun h140 => ?_)
            · refine lv_iconst (v := 0) hx hb d_Writer_putOrderBody_147 (by decide) ?_
              refine z_topi (w := (if how &&& 16 = 0 then 0 else 1)) ((if_pos h140).symm) ?_
              exact key140
            · refine lv_iconst (v := 1) hx hb d_Writer_putOrderBody_143 (by decide) ?_
              refine lv_goto (tgt := 148) hx hb d_Writer_putOrderBody_144 rfl ?_
              refine z_topi (w := (if how &&& 16 = 0 then 0 else 1)) ((if_neg h140).symm) ?_
              exact key140
          refine lv_lload hx hb d_Writer_putOrderBody_148 (lv_at hl 5 rfl) ?_
          have hPc := hP.sub (ws' := [(w, .inr (10, [.ref tp, .ref la, .int q127.2.2.1, .int q127.2.2.2.1, .int q127.2.2.2.2.1, .int ss])), (la, .inr (1, [.int (nI pid), va_rf nx, .int ct, .int tw, .long ck, .int q127.2.2.2.2.2, va_rf se, va_rf pi])), (tp, .inr (0, [.ref a, .int q127.2.1])), (a, .inl (cB, 9400, .inl q127.1))]) [0, 1, 2, 3] rfl
          have hKc := hK.sub (tys' := [(cB, .byte)]) [0] rfl
          have hDc := hD.sub (ws' := [(w, .inr (10, [.ref tp, .ref la, .int q127.2.2.1, .int q127.2.2.2.1, .int q127.2.2.2.2.1, .int ss])), (la, .inr (1, [.int (nI pid), va_rf nx, .int ct, .int tw, .long ck, .int q127.2.2.2.2.2, va_rf se, va_rf pi])), (tp, .inr (0, [.ref a, .int q127.2.1])), (a, .inl (cB, 9400, .inl q127.1))]) [0, 1, 2, 3] (by decide) rfl
          have hFc := va_free (wc := [(w, .inr (10, [.ref tp, .ref la, .int q127.2.2.1, .int q127.2.2.2.1, .int q127.2.2.2.2.1, .int ss])), (la, .inr (1, [.int (nI pid), va_rf nx, .int ct, .int tw, .long ck, .int q127.2.2.2.2.2, va_rf se, va_rf pi])), (tp, .inr (0, [.ref a, .int q127.2.1])), (a, .inl (cB, 9400, .inl q127.1))]) hD hS hA [0, 1, 2, 3] rfl
          refine va_callv (va_runV (As := [.int (if how &&& 16 = 0 then 0 else 1), .long t1]) (rest := []) ⟨hx, hb, hml, hown, hts⟩ (c_Writer_putFlagAndTime l D H.size cB w tp a q127 ss la nx se pi ct tw ck pid w0 tot T0 (((B ++ bsL 127 1) ++ bsL ((obF how).toInt64) 1) ++ bsL 127 1) (if how &&& 16 = 0 then 0 else 1) t1 e127 htot hT hpid hw0 (by (try simp only [List.length_append, bs_len, List.length_nil, ph_len]); omega)) (z_cV hN wd_1069 wd_85 wd_1066 hd_Writer_putFlagAndTime rfl rfl ⟨Nat.le_of_ble_eq_true rfl, Nat.le_of_ble_eq_true rfl⟩ wd_1068 wd_27) (z_preVm (va_recv (ci := 10) (q0 := 0) hK hP rfl rfl) hPc hKc hN hDc) rfl rfl hl.1 rfl (lv_room (Nat.le_of_ble_eq_true rfl)) d_Writer_putOrderBody_150 ⟨Nat.le_of_ble_eq_true rfl, Nat.le_of_ble_eq_true rfl⟩) hS (fun q _ h => hFc q h) hFc (fun q150 t H locs ht hvm e150 hB hz1 hk1 hS => ?_)
          obtain ⟨hP1, hK1, hD1⟩ := hB
          rw [ht] at hP1
          obtain ⟨hP, hD⟩ := va_join (wr := []) (w1 := [(w, .inr (10, [.ref tp, .ref la, .int q150.2.2.1, .int q150.2.2.2.1, .int q150.2.2.2.2.1, .int ss])), (la, .inr (1, [.int (nI pid), va_rf nx, .int ct, .int tw, .long ck, .int q150.2.2.2.2.2, va_rf se, va_rf pi])), (tp, .inr (0, [.ref a, .int q150.2.1])), (a, .inl (cB, 9400, .inl q150.1))]) hP hD [0, 1, 2, 3] [] rfl rfl (by decide) (by decide) hk1 hFc hP1 hD1
          clear hk1 hP1 hD1 hFc hPc hDc hz1
          have hP : va_P D classes [(w, .inr (10, [.ref tp, .ref la, .int q150.2.2.1, .int q150.2.2.2.1, .int q150.2.2.2.2.1, .int ss])), (la, .inr (1, [.int (nI pid), va_rf nx, .int ct, .int tw, .long ck, .int q150.2.2.2.2.2, va_rf se, va_rf pi])), (tp, .inr (0, [.ref a, .int q150.2.1])), (a, .inl (cB, 9400, .inl q150.1))] H := hP
          have hD : va_D A [(w, .inr (10, [.ref tp, .ref la, .int q150.2.2.1, .int q150.2.2.2.1, .int q150.2.2.2.2.1, .int ss])), (la, .inr (1, [.int (nI pid), va_rf nx, .int ct, .int tw, .long ck, .int q150.2.2.2.2.2, va_rf se, va_rf pi])), (tp, .inr (0, [.ref a, .int q150.2.1])), (a, .inl (cB, 9400, .inl q150.1))] := hD
          refine lv_aload_n hx hb d_Writer_putOrderBody_153 rfl (lv_at hl 2 rfl) ?_
          refine lv_ldc2 hx hb hown (hts _ wd_1072) d_Writer_putOrderBody_154 ?_
          refine lv_iconst (v := 4) hx hb d_Writer_putOrderBody_157 (by decide) ?_
          have hPc := hP.sub (ws' := [(w, .inr (10, [.ref tp, .ref la, .int q150.2.2.1, .int q150.2.2.2.1, .int q150.2.2.2.2.1, .int ss])), (la, .inr (1, [.int (nI pid), va_rf nx, .int ct, .int tw, .long ck, .int q150.2.2.2.2.2, va_rf se, va_rf pi])), (tp, .inr (0, [.ref a, .int q150.2.1])), (a, .inl (cB, 9400, .inl q150.1))]) [0, 1, 2, 3] rfl
          have hKc := hK.sub (tys' := [(cB, .byte)]) [0] rfl
          have hDc := hD.sub (ws' := [(w, .inr (10, [.ref tp, .ref la, .int q150.2.2.1, .int q150.2.2.2.1, .int q150.2.2.2.2.1, .int ss])), (la, .inr (1, [.int (nI pid), va_rf nx, .int ct, .int tw, .long ck, .int q150.2.2.2.2.2, va_rf se, va_rf pi])), (tp, .inr (0, [.ref a, .int q150.2.1])), (a, .inl (cB, 9400, .inl q150.1))]) [0, 1, 2, 3] (by decide) rfl
          have hFc := va_free (wc := [(w, .inr (10, [.ref tp, .ref la, .int q150.2.2.1, .int q150.2.2.2.1, .int q150.2.2.2.2.1, .int ss])), (la, .inr (1, [.int (nI pid), va_rf nx, .int ct, .int tw, .long ck, .int q150.2.2.2.2.2, va_rf se, va_rf pi])), (tp, .inr (0, [.ref a, .int q150.2.1])), (a, .inl (cB, 9400, .inl q150.1))]) hD hS hA [0, 1, 2, 3] rfl
          refine va_callv (va_runV (As := [.long (-1), .int (nI 4)]) (rest := []) ⟨hx, hb, hml, hown, hts⟩ (c_Writer_putNumber l D H.size cB w tp a q150 ss la nx se pi ct tw ck pid w0 tot T0 ((((B ++ bsL 127 1) ++ bsL ((obF how).toInt64) 1) ++ bsL 127 1) ++ bsL (ftV (if how &&& 16 = 0 then 0 else 1) t1) 5) (-1) 4 e150 htot hT hpid hw0 (by (try simp only [List.length_append, bs_len, List.length_nil, ph_len]); omega) (by omega) (by omega)) (z_cV hN wd_988 wd_85 wd_985 hd_Writer_putNumber rfl rfl ⟨Nat.le_of_ble_eq_true rfl, Nat.le_of_ble_eq_true rfl⟩ wd_987 wd_23) (z_preVm (va_recv (ci := 10) (q0 := 0) hK hP rfl rfl) hPc hKc hN hDc) rfl rfl hl.1 rfl (lv_room (Nat.le_of_ble_eq_true rfl)) d_Writer_putOrderBody_158 ⟨Nat.le_of_ble_eq_true rfl, Nat.le_of_ble_eq_true rfl⟩) hS (fun q _ h => hFc q h) hFc (fun q158 t H locs ht hvm e158 hB hz1 hk1 hS => ?_)
          obtain ⟨hP1, hK1, hD1⟩ := hB
          rw [ht] at hP1
          obtain ⟨hP, hD⟩ := va_join (wr := []) (w1 := [(w, .inr (10, [.ref tp, .ref la, .int q158.2.2.1, .int q158.2.2.2.1, .int q158.2.2.2.2.1, .int ss])), (la, .inr (1, [.int (nI pid), va_rf nx, .int ct, .int tw, .long ck, .int q158.2.2.2.2.2, va_rf se, va_rf pi])), (tp, .inr (0, [.ref a, .int q158.2.1])), (a, .inl (cB, 9400, .inl q158.1))]) hP hD [0, 1, 2, 3] [] rfl rfl (by decide) (by decide) hk1 hFc hP1 hD1
          clear hk1 hP1 hD1 hFc hPc hDc hz1
          have hP : va_P D classes [(w, .inr (10, [.ref tp, .ref la, .int q158.2.2.1, .int q158.2.2.2.1, .int q158.2.2.2.2.1, .int ss])), (la, .inr (1, [.int (nI pid), va_rf nx, .int ct, .int tw, .long ck, .int q158.2.2.2.2.2, va_rf se, va_rf pi])), (tp, .inr (0, [.ref a, .int q158.2.1])), (a, .inl (cB, 9400, .inl q158.1))] H := hP
          have hD : va_D A [(w, .inr (10, [.ref tp, .ref la, .int q158.2.2.1, .int q158.2.2.2.1, .int q158.2.2.2.2.1, .int ss])), (la, .inr (1, [.int (nI pid), va_rf nx, .int ct, .int tw, .long ck, .int q158.2.2.2.2.2, va_rf se, va_rf pi])), (tp, .inr (0, [.ref a, .int q158.2.1])), (a, .inl (cB, 9400, .inl q158.1))] := hD
          have hP9 := hP.sub (ws' := [(w, .inr (10, [.ref tp, .ref la, .int q158.2.2.1, .int q158.2.2.2.1, .int q158.2.2.2.2.1, .int ss])), (la, .inr (1, [.int (nI pid), va_rf nx, .int ct, .int tw, .long ck, .int q158.2.2.2.2.2, va_rf se, va_rf pi])), (tp, .inr (0, [.ref a, .int q158.2.1])), (a, .inl (cB, 9400, .inl q158.1))]) [0, 1, 2, 3] rfl
          have hD9 := hD.sub (ws' := [(w, .inr (10, [.ref tp, .ref la, .int q158.2.2.1, .int q158.2.2.2.1, .int q158.2.2.2.2.1, .int ss])), (la, .inr (1, [.int (nI pid), va_rf nx, .int ct, .int tw, .long ck, .int q158.2.2.2.2.2, va_rf se, va_rf pi])), (tp, .inr (0, [.ref a, .int q158.2.1])), (a, .inl (cB, 9400, .inl q158.1))]) [0, 1, 2, 3] (by decide) rfl
          have hK9 := hK.sub (tys' := [(cB, .byte)]) [0] rfl
          exact W.vret hx hb hr (fun t ht hW => ⟨⟨q158, rfl, (by have hz := e158; unfold obL; first | (exfalso; exact absurd h4b h4) | (exfalso; exact absurd h4 h4b) | (simp only [h1, h4, h8, if_true, if_false]; first | (rw [if_pos h105]; simpa only [List.append_assoc, List.append_nil, List.nil_append] using hz) | (rw [if_neg h105]; simpa only [List.append_assoc, List.append_nil, List.nil_append] using hz) | (simpa only [List.append_assoc, List.append_nil, List.nil_append] using hz))), ⟨by rw [ht]; exact hP9, va_K.moved hW.alike hK9, hD9⟩⟩, hS.F ht⟩) hS.2.2 d_Writer_putOrderBody_161
    · have h4 : how &&& 4 = 0 := (ob_i rfl).mp h98
      refine lv_iload_n hx hb d_Writer_putOrderBody_101 rfl (lv_at hl 3 rfl) ?_
      refine lv_bipush (v := 32) hx hb d_Writer_putOrderBody_102 (by decide) ?_
      refine lv_iand hx hb d_Writer_putOrderBody_104 ?_
      refine lv_if_eq (tgt := 117) hx hb d_Writer_putOrderBody_105 rfl (fun h105 => ?_) (fun h105 => ?_)
      · refine lv_iload hx hb d_Writer_putOrderBody_117 (lv_at hl 0 rfl) ?_
        refine lv_if_ne (tgt := 130) hx hb d_Writer_putOrderBody_119 rfl (fun h119 => ?_) (fun h119 => ?_)
        · have h4b : ¬ how &&& 4 = 0 := mt (ob_i rfl).mpr h119
          refine lv_iload hx hb d_Writer_putOrderBody_130 (lv_at hl 1 rfl) ?_
          refine lv_if_eq (tgt := 153) hx hb d_Writer_putOrderBody_132 rfl (fun h132 => ?_) (fun h132 => ?_)
          · have h8 : how &&& 8 = 0 := (ob_i rfl).mp h132
            refine lv_aload_n hx hb d_Writer_putOrderBody_153 rfl (lv_at hl 2 rfl) ?_
            refine lv_ldc2 hx hb hown (hts _ wd_1072) d_Writer_putOrderBody_154 ?_
            refine lv_iconst (v := 4) hx hb d_Writer_putOrderBody_157 (by decide) ?_
            have hPc := hP.sub (ws' := [(w, .inr (10, [.ref tp, .ref la, .int q93.2.2.1, .int q93.2.2.2.1, .int q93.2.2.2.2.1, .int ss])), (la, .inr (1, [.int (nI pid), va_rf nx, .int ct, .int tw, .long ck, .int q93.2.2.2.2.2, va_rf se, va_rf pi])), (tp, .inr (0, [.ref a, .int q93.2.1])), (a, .inl (cB, 9400, .inl q93.1))]) [0, 1, 2, 3] rfl
            have hKc := hK.sub (tys' := [(cB, .byte)]) [0] rfl
            have hDc := hD.sub (ws' := [(w, .inr (10, [.ref tp, .ref la, .int q93.2.2.1, .int q93.2.2.2.1, .int q93.2.2.2.2.1, .int ss])), (la, .inr (1, [.int (nI pid), va_rf nx, .int ct, .int tw, .long ck, .int q93.2.2.2.2.2, va_rf se, va_rf pi])), (tp, .inr (0, [.ref a, .int q93.2.1])), (a, .inl (cB, 9400, .inl q93.1))]) [0, 1, 2, 3] (by decide) rfl
            have hFc := va_free (wc := [(w, .inr (10, [.ref tp, .ref la, .int q93.2.2.1, .int q93.2.2.2.1, .int q93.2.2.2.2.1, .int ss])), (la, .inr (1, [.int (nI pid), va_rf nx, .int ct, .int tw, .long ck, .int q93.2.2.2.2.2, va_rf se, va_rf pi])), (tp, .inr (0, [.ref a, .int q93.2.1])), (a, .inl (cB, 9400, .inl q93.1))]) hD hS hA [0, 1, 2, 3] rfl
            refine va_callv (va_runV (As := [.long (-1), .int (nI 4)]) (rest := []) ⟨hx, hb, hml, hown, hts⟩ (c_Writer_putNumber l D H.size cB w tp a q93 ss la nx se pi ct tw ck pid w0 tot T0 ((B ++ bsL 127 1) ++ bsL ((obF how).toInt64) 1) (-1) 4 e93 htot hT hpid hw0 (by (try simp only [List.length_append, bs_len, List.length_nil, ph_len]); omega) (by omega) (by omega)) (z_cV hN wd_988 wd_85 wd_985 hd_Writer_putNumber rfl rfl ⟨Nat.le_of_ble_eq_true rfl, Nat.le_of_ble_eq_true rfl⟩ wd_987 wd_23) (z_preVm (va_recv (ci := 10) (q0 := 0) hK hP rfl rfl) hPc hKc hN hDc) rfl rfl hl.1 rfl (lv_room (Nat.le_of_ble_eq_true rfl)) d_Writer_putOrderBody_158 ⟨Nat.le_of_ble_eq_true rfl, Nat.le_of_ble_eq_true rfl⟩) hS (fun q _ h => hFc q h) hFc (fun q158 t H locs ht hvm e158 hB hz1 hk1 hS => ?_)
            obtain ⟨hP1, hK1, hD1⟩ := hB
            rw [ht] at hP1
            obtain ⟨hP, hD⟩ := va_join (wr := []) (w1 := [(w, .inr (10, [.ref tp, .ref la, .int q158.2.2.1, .int q158.2.2.2.1, .int q158.2.2.2.2.1, .int ss])), (la, .inr (1, [.int (nI pid), va_rf nx, .int ct, .int tw, .long ck, .int q158.2.2.2.2.2, va_rf se, va_rf pi])), (tp, .inr (0, [.ref a, .int q158.2.1])), (a, .inl (cB, 9400, .inl q158.1))]) hP hD [0, 1, 2, 3] [] rfl rfl (by decide) (by decide) hk1 hFc hP1 hD1
            clear hk1 hP1 hD1 hFc hPc hDc hz1
            have hP : va_P D classes [(w, .inr (10, [.ref tp, .ref la, .int q158.2.2.1, .int q158.2.2.2.1, .int q158.2.2.2.2.1, .int ss])), (la, .inr (1, [.int (nI pid), va_rf nx, .int ct, .int tw, .long ck, .int q158.2.2.2.2.2, va_rf se, va_rf pi])), (tp, .inr (0, [.ref a, .int q158.2.1])), (a, .inl (cB, 9400, .inl q158.1))] H := hP
            have hD : va_D A [(w, .inr (10, [.ref tp, .ref la, .int q158.2.2.1, .int q158.2.2.2.1, .int q158.2.2.2.2.1, .int ss])), (la, .inr (1, [.int (nI pid), va_rf nx, .int ct, .int tw, .long ck, .int q158.2.2.2.2.2, va_rf se, va_rf pi])), (tp, .inr (0, [.ref a, .int q158.2.1])), (a, .inl (cB, 9400, .inl q158.1))] := hD
            have hP9 := hP.sub (ws' := [(w, .inr (10, [.ref tp, .ref la, .int q158.2.2.1, .int q158.2.2.2.1, .int q158.2.2.2.2.1, .int ss])), (la, .inr (1, [.int (nI pid), va_rf nx, .int ct, .int tw, .long ck, .int q158.2.2.2.2.2, va_rf se, va_rf pi])), (tp, .inr (0, [.ref a, .int q158.2.1])), (a, .inl (cB, 9400, .inl q158.1))]) [0, 1, 2, 3] rfl
            have hD9 := hD.sub (ws' := [(w, .inr (10, [.ref tp, .ref la, .int q158.2.2.1, .int q158.2.2.2.1, .int q158.2.2.2.2.1, .int ss])), (la, .inr (1, [.int (nI pid), va_rf nx, .int ct, .int tw, .long ck, .int q158.2.2.2.2.2, va_rf se, va_rf pi])), (tp, .inr (0, [.ref a, .int q158.2.1])), (a, .inl (cB, 9400, .inl q158.1))]) [0, 1, 2, 3] (by decide) rfl
            have hK9 := hK.sub (tys' := [(cB, .byte)]) [0] rfl
            exact W.vret hx hb hr (fun t ht hW => ⟨⟨q158, rfl, (by have hz := e158; unfold obL; first | (exfalso; exact absurd h4b h4) | (exfalso; exact absurd h4 h4b) | (simp only [h1, h4, h8, if_true, if_false]; first | (rw [if_pos h105]; simpa only [List.append_assoc, List.append_nil, List.nil_append] using hz) | (rw [if_neg h105]; simpa only [List.append_assoc, List.append_nil, List.nil_append] using hz) | (simpa only [List.append_assoc, List.append_nil, List.nil_append] using hz))), ⟨by rw [ht]; exact hP9, va_K.moved hW.alike hK9, hD9⟩⟩, hS.F ht⟩) hS.2.2 d_Writer_putOrderBody_161
          · have h8 : ¬ how &&& 8 = 0 := mt (ob_i rfl).mpr h132
            refine lv_aload_n hx hb d_Writer_putOrderBody_135 rfl (lv_at hl 2 rfl) ?_
            refine lv_iload_n hx hb d_Writer_putOrderBody_136 rfl (lv_at hl 3 rfl) ?_
            refine lv_bipush (v := 16) hx hb d_Writer_putOrderBody_137 (by decide) ?_
            refine lv_iand hx hb d_Writer_putOrderBody_139 ?_
            suffices key140 : W p l e ({ frames := 4, cells := 0, slots := 0, locals := 90 }) s m ([.ref w, .int how, .long t0, .long t1]).toArray below meth cd H locs 0 0 (MQ below (va_Qv (fun (u : WQ) => WS pid w0 tot T0 (B ++ obL how t0 t1) u) (fun (u : WQ) t => zW D (A) [(w, .inr (10, [.ref tp, .ref la, .int u.2.2.1, .int u.2.2.2.1, .int u.2.2.2.2.1, .int ss])), (la, .inr (1, [.int (nI pid), va_rf nx, .int ct, .int tw, .long ck, .int u.2.2.2.2.2, va_rf se, va_rf pi])), (tp, .inr (0, [.ref a, .int u.2.1])), (a, .inl (cB, 9400, .inl u.1))] [(cB, .byte)] t) (A)) ([.ref w, .int how, .long t0, .long t1]).toArray s 0 0 (A)) (F0 m 148 ls [.int (if how &&& 16 = 0 then 0 else 1), .ref w]) by
              refine lv_if_eq (tgt := 147) hx hb d_Writer_putOrderBody_140 rfl (fun h140 => ?_) (fun h140 => ?_)
              · refine lv_iconst (v := 0) hx hb d_Writer_putOrderBody_147 (by decide) ?_
                refine z_topi (w := (if how &&& 16 = 0 then 0 else 1)) ((if_pos h140).symm) ?_
                exact key140
              · refine lv_iconst (v := 1) hx hb d_Writer_putOrderBody_143 (by decide) ?_
                refine lv_goto (tgt := 148) hx hb d_Writer_putOrderBody_144 rfl ?_
                refine z_topi (w := (if how &&& 16 = 0 then 0 else 1)) ((if_neg h140).symm) ?_
                exact key140
            refine lv_lload hx hb d_Writer_putOrderBody_148 (lv_at hl 5 rfl) ?_
            have hPc := hP.sub (ws' := [(w, .inr (10, [.ref tp, .ref la, .int q93.2.2.1, .int q93.2.2.2.1, .int q93.2.2.2.2.1, .int ss])), (la, .inr (1, [.int (nI pid), va_rf nx, .int ct, .int tw, .long ck, .int q93.2.2.2.2.2, va_rf se, va_rf pi])), (tp, .inr (0, [.ref a, .int q93.2.1])), (a, .inl (cB, 9400, .inl q93.1))]) [0, 1, 2, 3] rfl
            have hKc := hK.sub (tys' := [(cB, .byte)]) [0] rfl
            have hDc := hD.sub (ws' := [(w, .inr (10, [.ref tp, .ref la, .int q93.2.2.1, .int q93.2.2.2.1, .int q93.2.2.2.2.1, .int ss])), (la, .inr (1, [.int (nI pid), va_rf nx, .int ct, .int tw, .long ck, .int q93.2.2.2.2.2, va_rf se, va_rf pi])), (tp, .inr (0, [.ref a, .int q93.2.1])), (a, .inl (cB, 9400, .inl q93.1))]) [0, 1, 2, 3] (by decide) rfl
            have hFc := va_free (wc := [(w, .inr (10, [.ref tp, .ref la, .int q93.2.2.1, .int q93.2.2.2.1, .int q93.2.2.2.2.1, .int ss])), (la, .inr (1, [.int (nI pid), va_rf nx, .int ct, .int tw, .long ck, .int q93.2.2.2.2.2, va_rf se, va_rf pi])), (tp, .inr (0, [.ref a, .int q93.2.1])), (a, .inl (cB, 9400, .inl q93.1))]) hD hS hA [0, 1, 2, 3] rfl
            refine va_callv (va_runV (As := [.int (if how &&& 16 = 0 then 0 else 1), .long t1]) (rest := []) ⟨hx, hb, hml, hown, hts⟩ (c_Writer_putFlagAndTime l D H.size cB w tp a q93 ss la nx se pi ct tw ck pid w0 tot T0 ((B ++ bsL 127 1) ++ bsL ((obF how).toInt64) 1) (if how &&& 16 = 0 then 0 else 1) t1 e93 htot hT hpid hw0 (by (try simp only [List.length_append, bs_len, List.length_nil, ph_len]); omega)) (z_cV hN wd_1069 wd_85 wd_1066 hd_Writer_putFlagAndTime rfl rfl ⟨Nat.le_of_ble_eq_true rfl, Nat.le_of_ble_eq_true rfl⟩ wd_1068 wd_27) (z_preVm (va_recv (ci := 10) (q0 := 0) hK hP rfl rfl) hPc hKc hN hDc) rfl rfl hl.1 rfl (lv_room (Nat.le_of_ble_eq_true rfl)) d_Writer_putOrderBody_150 ⟨Nat.le_of_ble_eq_true rfl, Nat.le_of_ble_eq_true rfl⟩) hS (fun q _ h => hFc q h) hFc (fun q150 t H locs ht hvm e150 hB hz1 hk1 hS => ?_)
            obtain ⟨hP1, hK1, hD1⟩ := hB
            rw [ht] at hP1
            obtain ⟨hP, hD⟩ := va_join (wr := []) (w1 := [(w, .inr (10, [.ref tp, .ref la, .int q150.2.2.1, .int q150.2.2.2.1, .int q150.2.2.2.2.1, .int ss])), (la, .inr (1, [.int (nI pid), va_rf nx, .int ct, .int tw, .long ck, .int q150.2.2.2.2.2, va_rf se, va_rf pi])), (tp, .inr (0, [.ref a, .int q150.2.1])), (a, .inl (cB, 9400, .inl q150.1))]) hP hD [0, 1, 2, 3] [] rfl rfl (by decide) (by decide) hk1 hFc hP1 hD1
            clear hk1 hP1 hD1 hFc hPc hDc hz1
            have hP : va_P D classes [(w, .inr (10, [.ref tp, .ref la, .int q150.2.2.1, .int q150.2.2.2.1, .int q150.2.2.2.2.1, .int ss])), (la, .inr (1, [.int (nI pid), va_rf nx, .int ct, .int tw, .long ck, .int q150.2.2.2.2.2, va_rf se, va_rf pi])), (tp, .inr (0, [.ref a, .int q150.2.1])), (a, .inl (cB, 9400, .inl q150.1))] H := hP
            have hD : va_D A [(w, .inr (10, [.ref tp, .ref la, .int q150.2.2.1, .int q150.2.2.2.1, .int q150.2.2.2.2.1, .int ss])), (la, .inr (1, [.int (nI pid), va_rf nx, .int ct, .int tw, .long ck, .int q150.2.2.2.2.2, va_rf se, va_rf pi])), (tp, .inr (0, [.ref a, .int q150.2.1])), (a, .inl (cB, 9400, .inl q150.1))] := hD
            refine lv_aload_n hx hb d_Writer_putOrderBody_153 rfl (lv_at hl 2 rfl) ?_
            refine lv_ldc2 hx hb hown (hts _ wd_1072) d_Writer_putOrderBody_154 ?_
            refine lv_iconst (v := 4) hx hb d_Writer_putOrderBody_157 (by decide) ?_
            have hPc := hP.sub (ws' := [(w, .inr (10, [.ref tp, .ref la, .int q150.2.2.1, .int q150.2.2.2.1, .int q150.2.2.2.2.1, .int ss])), (la, .inr (1, [.int (nI pid), va_rf nx, .int ct, .int tw, .long ck, .int q150.2.2.2.2.2, va_rf se, va_rf pi])), (tp, .inr (0, [.ref a, .int q150.2.1])), (a, .inl (cB, 9400, .inl q150.1))]) [0, 1, 2, 3] rfl
            have hKc := hK.sub (tys' := [(cB, .byte)]) [0] rfl
            have hDc := hD.sub (ws' := [(w, .inr (10, [.ref tp, .ref la, .int q150.2.2.1, .int q150.2.2.2.1, .int q150.2.2.2.2.1, .int ss])), (la, .inr (1, [.int (nI pid), va_rf nx, .int ct, .int tw, .long ck, .int q150.2.2.2.2.2, va_rf se, va_rf pi])), (tp, .inr (0, [.ref a, .int q150.2.1])), (a, .inl (cB, 9400, .inl q150.1))]) [0, 1, 2, 3] (by decide) rfl
            have hFc := va_free (wc := [(w, .inr (10, [.ref tp, .ref la, .int q150.2.2.1, .int q150.2.2.2.1, .int q150.2.2.2.2.1, .int ss])), (la, .inr (1, [.int (nI pid), va_rf nx, .int ct, .int tw, .long ck, .int q150.2.2.2.2.2, va_rf se, va_rf pi])), (tp, .inr (0, [.ref a, .int q150.2.1])), (a, .inl (cB, 9400, .inl q150.1))]) hD hS hA [0, 1, 2, 3] rfl
            refine va_callv (va_runV (As := [.long (-1), .int (nI 4)]) (rest := []) ⟨hx, hb, hml, hown, hts⟩ (c_Writer_putNumber l D H.size cB w tp a q150 ss la nx se pi ct tw ck pid w0 tot T0 (((B ++ bsL 127 1) ++ bsL ((obF how).toInt64) 1) ++ bsL (ftV (if how &&& 16 = 0 then 0 else 1) t1) 5) (-1) 4 e150 htot hT hpid hw0 (by (try simp only [List.length_append, bs_len, List.length_nil, ph_len]); omega) (by omega) (by omega)) (z_cV hN wd_988 wd_85 wd_985 hd_Writer_putNumber rfl rfl ⟨Nat.le_of_ble_eq_true rfl, Nat.le_of_ble_eq_true rfl⟩ wd_987 wd_23) (z_preVm (va_recv (ci := 10) (q0 := 0) hK hP rfl rfl) hPc hKc hN hDc) rfl rfl hl.1 rfl (lv_room (Nat.le_of_ble_eq_true rfl)) d_Writer_putOrderBody_158 ⟨Nat.le_of_ble_eq_true rfl, Nat.le_of_ble_eq_true rfl⟩) hS (fun q _ h => hFc q h) hFc (fun q158 t H locs ht hvm e158 hB hz1 hk1 hS => ?_)
            obtain ⟨hP1, hK1, hD1⟩ := hB
            rw [ht] at hP1
            obtain ⟨hP, hD⟩ := va_join (wr := []) (w1 := [(w, .inr (10, [.ref tp, .ref la, .int q158.2.2.1, .int q158.2.2.2.1, .int q158.2.2.2.2.1, .int ss])), (la, .inr (1, [.int (nI pid), va_rf nx, .int ct, .int tw, .long ck, .int q158.2.2.2.2.2, va_rf se, va_rf pi])), (tp, .inr (0, [.ref a, .int q158.2.1])), (a, .inl (cB, 9400, .inl q158.1))]) hP hD [0, 1, 2, 3] [] rfl rfl (by decide) (by decide) hk1 hFc hP1 hD1
            clear hk1 hP1 hD1 hFc hPc hDc hz1
            have hP : va_P D classes [(w, .inr (10, [.ref tp, .ref la, .int q158.2.2.1, .int q158.2.2.2.1, .int q158.2.2.2.2.1, .int ss])), (la, .inr (1, [.int (nI pid), va_rf nx, .int ct, .int tw, .long ck, .int q158.2.2.2.2.2, va_rf se, va_rf pi])), (tp, .inr (0, [.ref a, .int q158.2.1])), (a, .inl (cB, 9400, .inl q158.1))] H := hP
            have hD : va_D A [(w, .inr (10, [.ref tp, .ref la, .int q158.2.2.1, .int q158.2.2.2.1, .int q158.2.2.2.2.1, .int ss])), (la, .inr (1, [.int (nI pid), va_rf nx, .int ct, .int tw, .long ck, .int q158.2.2.2.2.2, va_rf se, va_rf pi])), (tp, .inr (0, [.ref a, .int q158.2.1])), (a, .inl (cB, 9400, .inl q158.1))] := hD
            have hP9 := hP.sub (ws' := [(w, .inr (10, [.ref tp, .ref la, .int q158.2.2.1, .int q158.2.2.2.1, .int q158.2.2.2.2.1, .int ss])), (la, .inr (1, [.int (nI pid), va_rf nx, .int ct, .int tw, .long ck, .int q158.2.2.2.2.2, va_rf se, va_rf pi])), (tp, .inr (0, [.ref a, .int q158.2.1])), (a, .inl (cB, 9400, .inl q158.1))]) [0, 1, 2, 3] rfl
            have hD9 := hD.sub (ws' := [(w, .inr (10, [.ref tp, .ref la, .int q158.2.2.1, .int q158.2.2.2.1, .int q158.2.2.2.2.1, .int ss])), (la, .inr (1, [.int (nI pid), va_rf nx, .int ct, .int tw, .long ck, .int q158.2.2.2.2.2, va_rf se, va_rf pi])), (tp, .inr (0, [.ref a, .int q158.2.1])), (a, .inl (cB, 9400, .inl q158.1))]) [0, 1, 2, 3] (by decide) rfl
            have hK9 := hK.sub (tys' := [(cB, .byte)]) [0] rfl
            exact W.vret hx hb hr (fun t ht hW => ⟨⟨q158, rfl, (by have hz := e158; unfold obL; first | (exfalso; exact absurd h4b h4) | (exfalso; exact absurd h4 h4b) | (simp only [h1, h4, h8, if_true, if_false]; first | (rw [if_pos h105]; simpa only [List.append_assoc, List.append_nil, List.nil_append] using hz) | (rw [if_neg h105]; simpa only [List.append_assoc, List.append_nil, List.nil_append] using hz) | (simpa only [List.append_assoc, List.append_nil, List.nil_append] using hz))), ⟨by rw [ht]; exact hP9, va_K.moved hW.alike hK9, hD9⟩⟩, hS.F ht⟩) hS.2.2 d_Writer_putOrderBody_161
        · have h4b : how &&& 4 = 0 := (ob_i rfl).mp h119
          refine lv_aload_n hx hb d_Writer_putOrderBody_122 rfl (lv_at hl 2 rfl) ?_
          refine lv_ldc2 hx hb hown (hts _ wd_1079) d_Writer_putOrderBody_123 ?_
          refine lv_iconst (v := 1) hx hb d_Writer_putOrderBody_126 (by decide) ?_
          have hPc := hP.sub (ws' := [(w, .inr (10, [.ref tp, .ref la, .int q93.2.2.1, .int q93.2.2.2.1, .int q93.2.2.2.2.1, .int ss])), (la, .inr (1, [.int (nI pid), va_rf nx, .int ct, .int tw, .long ck, .int q93.2.2.2.2.2, va_rf se, va_rf pi])), (tp, .inr (0, [.ref a, .int q93.2.1])), (a, .inl (cB, 9400, .inl q93.1))]) [0, 1, 2, 3] rfl
          have hKc := hK.sub (tys' := [(cB, .byte)]) [0] rfl
          have hDc := hD.sub (ws' := [(w, .inr (10, [.ref tp, .ref la, .int q93.2.2.1, .int q93.2.2.2.1, .int q93.2.2.2.2.1, .int ss])), (la, .inr (1, [.int (nI pid), va_rf nx, .int ct, .int tw, .long ck, .int q93.2.2.2.2.2, va_rf se, va_rf pi])), (tp, .inr (0, [.ref a, .int q93.2.1])), (a, .inl (cB, 9400, .inl q93.1))]) [0, 1, 2, 3] (by decide) rfl
          have hFc := va_free (wc := [(w, .inr (10, [.ref tp, .ref la, .int q93.2.2.1, .int q93.2.2.2.1, .int q93.2.2.2.2.1, .int ss])), (la, .inr (1, [.int (nI pid), va_rf nx, .int ct, .int tw, .long ck, .int q93.2.2.2.2.2, va_rf se, va_rf pi])), (tp, .inr (0, [.ref a, .int q93.2.1])), (a, .inl (cB, 9400, .inl q93.1))]) hD hS hA [0, 1, 2, 3] rfl
          refine va_callv (va_runV (As := [.long 127, .int (nI 1)]) (rest := []) ⟨hx, hb, hml, hown, hts⟩ (c_Writer_putNumber l D H.size cB w tp a q93 ss la nx se pi ct tw ck pid w0 tot T0 ((B ++ bsL 127 1) ++ bsL ((obF how).toInt64) 1) 127 1 e93 htot hT hpid hw0 (by (try simp only [List.length_append, bs_len, List.length_nil, ph_len]); omega) (by omega) (by omega)) (z_cV hN wd_988 wd_85 wd_985 hd_Writer_putNumber rfl rfl ⟨Nat.le_of_ble_eq_true rfl, Nat.le_of_ble_eq_true rfl⟩ wd_987 wd_23) (z_preVm (va_recv (ci := 10) (q0 := 0) hK hP rfl rfl) hPc hKc hN hDc) rfl rfl hl.1 rfl (lv_room (Nat.le_of_ble_eq_true rfl)) d_Writer_putOrderBody_127 ⟨Nat.le_of_ble_eq_true rfl, Nat.le_of_ble_eq_true rfl⟩) hS (fun q _ h => hFc q h) hFc (fun q127 t H locs ht hvm e127 hB hz1 hk1 hS => ?_)
          obtain ⟨hP1, hK1, hD1⟩ := hB
          rw [ht] at hP1
          obtain ⟨hP, hD⟩ := va_join (wr := []) (w1 := [(w, .inr (10, [.ref tp, .ref la, .int q127.2.2.1, .int q127.2.2.2.1, .int q127.2.2.2.2.1, .int ss])), (la, .inr (1, [.int (nI pid), va_rf nx, .int ct, .int tw, .long ck, .int q127.2.2.2.2.2, va_rf se, va_rf pi])), (tp, .inr (0, [.ref a, .int q127.2.1])), (a, .inl (cB, 9400, .inl q127.1))]) hP hD [0, 1, 2, 3] [] rfl rfl (by decide) (by decide) hk1 hFc hP1 hD1
          clear hk1 hP1 hD1 hFc hPc hDc hz1
          have hP : va_P D classes [(w, .inr (10, [.ref tp, .ref la, .int q127.2.2.1, .int q127.2.2.2.1, .int q127.2.2.2.2.1, .int ss])), (la, .inr (1, [.int (nI pid), va_rf nx, .int ct, .int tw, .long ck, .int q127.2.2.2.2.2, va_rf se, va_rf pi])), (tp, .inr (0, [.ref a, .int q127.2.1])), (a, .inl (cB, 9400, .inl q127.1))] H := hP
          have hD : va_D A [(w, .inr (10, [.ref tp, .ref la, .int q127.2.2.1, .int q127.2.2.2.1, .int q127.2.2.2.2.1, .int ss])), (la, .inr (1, [.int (nI pid), va_rf nx, .int ct, .int tw, .long ck, .int q127.2.2.2.2.2, va_rf se, va_rf pi])), (tp, .inr (0, [.ref a, .int q127.2.1])), (a, .inl (cB, 9400, .inl q127.1))] := hD
          refine lv_iload hx hb d_Writer_putOrderBody_130 (lv_at hl 1 rfl) ?_
          refine lv_if_eq (tgt := 153) hx hb d_Writer_putOrderBody_132 rfl (fun h132 => ?_) (fun h132 => ?_)
          · have h8 : how &&& 8 = 0 := (ob_i rfl).mp h132
            refine lv_aload_n hx hb d_Writer_putOrderBody_153 rfl (lv_at hl 2 rfl) ?_
            refine lv_ldc2 hx hb hown (hts _ wd_1072) d_Writer_putOrderBody_154 ?_
            refine lv_iconst (v := 4) hx hb d_Writer_putOrderBody_157 (by decide) ?_
            have hPc := hP.sub (ws' := [(w, .inr (10, [.ref tp, .ref la, .int q127.2.2.1, .int q127.2.2.2.1, .int q127.2.2.2.2.1, .int ss])), (la, .inr (1, [.int (nI pid), va_rf nx, .int ct, .int tw, .long ck, .int q127.2.2.2.2.2, va_rf se, va_rf pi])), (tp, .inr (0, [.ref a, .int q127.2.1])), (a, .inl (cB, 9400, .inl q127.1))]) [0, 1, 2, 3] rfl
            have hKc := hK.sub (tys' := [(cB, .byte)]) [0] rfl
            have hDc := hD.sub (ws' := [(w, .inr (10, [.ref tp, .ref la, .int q127.2.2.1, .int q127.2.2.2.1, .int q127.2.2.2.2.1, .int ss])), (la, .inr (1, [.int (nI pid), va_rf nx, .int ct, .int tw, .long ck, .int q127.2.2.2.2.2, va_rf se, va_rf pi])), (tp, .inr (0, [.ref a, .int q127.2.1])), (a, .inl (cB, 9400, .inl q127.1))]) [0, 1, 2, 3] (by decide) rfl
            have hFc := va_free (wc := [(w, .inr (10, [.ref tp, .ref la, .int q127.2.2.1, .int q127.2.2.2.1, .int q127.2.2.2.2.1, .int ss])), (la, .inr (1, [.int (nI pid), va_rf nx, .int ct, .int tw, .long ck, .int q127.2.2.2.2.2, va_rf se, va_rf pi])), (tp, .inr (0, [.ref a, .int q127.2.1])), (a, .inl (cB, 9400, .inl q127.1))]) hD hS hA [0, 1, 2, 3] rfl
            refine va_callv (va_runV (As := [.long (-1), .int (nI 4)]) (rest := []) ⟨hx, hb, hml, hown, hts⟩ (c_Writer_putNumber l D H.size cB w tp a q127 ss la nx se pi ct tw ck pid w0 tot T0 (((B ++ bsL 127 1) ++ bsL ((obF how).toInt64) 1) ++ bsL 127 1) (-1) 4 e127 htot hT hpid hw0 (by (try simp only [List.length_append, bs_len, List.length_nil, ph_len]); omega) (by omega) (by omega)) (z_cV hN wd_988 wd_85 wd_985 hd_Writer_putNumber rfl rfl ⟨Nat.le_of_ble_eq_true rfl, Nat.le_of_ble_eq_true rfl⟩ wd_987 wd_23) (z_preVm (va_recv (ci := 10) (q0 := 0) hK hP rfl rfl) hPc hKc hN hDc) rfl rfl hl.1 rfl (lv_room (Nat.le_of_ble_eq_true rfl)) d_Writer_putOrderBody_158 ⟨Nat.le_of_ble_eq_true rfl, Nat.le_of_ble_eq_true rfl⟩) hS (fun q _ h => hFc q h) hFc (fun q158 t H locs ht hvm e158 hB hz1 hk1 hS => ?_)
            obtain ⟨hP1, hK1, hD1⟩ := hB
            rw [ht] at hP1
            obtain ⟨hP, hD⟩ := va_join (wr := []) (w1 := [(w, .inr (10, [.ref tp, .ref la, .int q158.2.2.1, .int q158.2.2.2.1, .int q158.2.2.2.2.1, .int ss])), (la, .inr (1, [.int (nI pid), va_rf nx, .int ct, .int tw, .long ck, .int q158.2.2.2.2.2, va_rf se, va_rf pi])), (tp, .inr (0, [.ref a, .int q158.2.1])), (a, .inl (cB, 9400, .inl q158.1))]) hP hD [0, 1, 2, 3] [] rfl rfl (by decide) (by decide) hk1 hFc hP1 hD1
            clear hk1 hP1 hD1 hFc hPc hDc hz1
            have hP : va_P D classes [(w, .inr (10, [.ref tp, .ref la, .int q158.2.2.1, .int q158.2.2.2.1, .int q158.2.2.2.2.1, .int ss])), (la, .inr (1, [.int (nI pid), va_rf nx, .int ct, .int tw, .long ck, .int q158.2.2.2.2.2, va_rf se, va_rf pi])), (tp, .inr (0, [.ref a, .int q158.2.1])), (a, .inl (cB, 9400, .inl q158.1))] H := hP
            have hD : va_D A [(w, .inr (10, [.ref tp, .ref la, .int q158.2.2.1, .int q158.2.2.2.1, .int q158.2.2.2.2.1, .int ss])), (la, .inr (1, [.int (nI pid), va_rf nx, .int ct, .int tw, .long ck, .int q158.2.2.2.2.2, va_rf se, va_rf pi])), (tp, .inr (0, [.ref a, .int q158.2.1])), (a, .inl (cB, 9400, .inl q158.1))] := hD
            have hP9 := hP.sub (ws' := [(w, .inr (10, [.ref tp, .ref la, .int q158.2.2.1, .int q158.2.2.2.1, .int q158.2.2.2.2.1, .int ss])), (la, .inr (1, [.int (nI pid), va_rf nx, .int ct, .int tw, .long ck, .int q158.2.2.2.2.2, va_rf se, va_rf pi])), (tp, .inr (0, [.ref a, .int q158.2.1])), (a, .inl (cB, 9400, .inl q158.1))]) [0, 1, 2, 3] rfl
            have hD9 := hD.sub (ws' := [(w, .inr (10, [.ref tp, .ref la, .int q158.2.2.1, .int q158.2.2.2.1, .int q158.2.2.2.2.1, .int ss])), (la, .inr (1, [.int (nI pid), va_rf nx, .int ct, .int tw, .long ck, .int q158.2.2.2.2.2, va_rf se, va_rf pi])), (tp, .inr (0, [.ref a, .int q158.2.1])), (a, .inl (cB, 9400, .inl q158.1))]) [0, 1, 2, 3] (by decide) rfl
            have hK9 := hK.sub (tys' := [(cB, .byte)]) [0] rfl
            exact W.vret hx hb hr (fun t ht hW => ⟨⟨q158, rfl, (by have hz := e158; unfold obL; first | (exfalso; exact absurd h4b h4) | (exfalso; exact absurd h4 h4b) | (simp only [h1, h4, h8, if_true, if_false]; first | (rw [if_pos h105]; simpa only [List.append_assoc, List.append_nil, List.nil_append] using hz) | (rw [if_neg h105]; simpa only [List.append_assoc, List.append_nil, List.nil_append] using hz) | (simpa only [List.append_assoc, List.append_nil, List.nil_append] using hz))), ⟨by rw [ht]; exact hP9, va_K.moved hW.alike hK9, hD9⟩⟩, hS.F ht⟩) hS.2.2 d_Writer_putOrderBody_161
          · have h8 : ¬ how &&& 8 = 0 := mt (ob_i rfl).mpr h132
            refine lv_aload_n hx hb d_Writer_putOrderBody_135 rfl (lv_at hl 2 rfl) ?_
            refine lv_iload_n hx hb d_Writer_putOrderBody_136 rfl (lv_at hl 3 rfl) ?_
            refine lv_bipush (v := 16) hx hb d_Writer_putOrderBody_137 (by decide) ?_
            refine lv_iand hx hb d_Writer_putOrderBody_139 ?_
            suffices key140 : W p l e ({ frames := 4, cells := 0, slots := 0, locals := 90 }) s m ([.ref w, .int how, .long t0, .long t1]).toArray below meth cd H locs 0 0 (MQ below (va_Qv (fun (u : WQ) => WS pid w0 tot T0 (B ++ obL how t0 t1) u) (fun (u : WQ) t => zW D (A) [(w, .inr (10, [.ref tp, .ref la, .int u.2.2.1, .int u.2.2.2.1, .int u.2.2.2.2.1, .int ss])), (la, .inr (1, [.int (nI pid), va_rf nx, .int ct, .int tw, .long ck, .int u.2.2.2.2.2, va_rf se, va_rf pi])), (tp, .inr (0, [.ref a, .int u.2.1])), (a, .inl (cB, 9400, .inl u.1))] [(cB, .byte)] t) (A)) ([.ref w, .int how, .long t0, .long t1]).toArray s 0 0 (A)) (F0 m 148 ls [.int (if how &&& 16 = 0 then 0 else 1), .ref w]) by
              refine lv_if_eq (tgt := 147) hx hb d_Writer_putOrderBody_140 rfl (fun h140 => ?_) (fun h140 => ?_)
              · refine lv_iconst (v := 0) hx hb d_Writer_putOrderBody_147 (by decide) ?_
                refine z_topi (w := (if how &&& 16 = 0 then 0 else 1)) ((if_pos h140).symm) ?_
                exact key140
              · refine lv_iconst (v := 1) hx hb d_Writer_putOrderBody_143 (by decide) ?_
                refine lv_goto (tgt := 148) hx hb d_Writer_putOrderBody_144 rfl ?_
                refine z_topi (w := (if how &&& 16 = 0 then 0 else 1)) ((if_neg h140).symm) ?_
                exact key140
            refine lv_lload hx hb d_Writer_putOrderBody_148 (lv_at hl 5 rfl) ?_
            have hPc := hP.sub (ws' := [(w, .inr (10, [.ref tp, .ref la, .int q127.2.2.1, .int q127.2.2.2.1, .int q127.2.2.2.2.1, .int ss])), (la, .inr (1, [.int (nI pid), va_rf nx, .int ct, .int tw, .long ck, .int q127.2.2.2.2.2, va_rf se, va_rf pi])), (tp, .inr (0, [.ref a, .int q127.2.1])), (a, .inl (cB, 9400, .inl q127.1))]) [0, 1, 2, 3] rfl
            have hKc := hK.sub (tys' := [(cB, .byte)]) [0] rfl
            have hDc := hD.sub (ws' := [(w, .inr (10, [.ref tp, .ref la, .int q127.2.2.1, .int q127.2.2.2.1, .int q127.2.2.2.2.1, .int ss])), (la, .inr (1, [.int (nI pid), va_rf nx, .int ct, .int tw, .long ck, .int q127.2.2.2.2.2, va_rf se, va_rf pi])), (tp, .inr (0, [.ref a, .int q127.2.1])), (a, .inl (cB, 9400, .inl q127.1))]) [0, 1, 2, 3] (by decide) rfl
            have hFc := va_free (wc := [(w, .inr (10, [.ref tp, .ref la, .int q127.2.2.1, .int q127.2.2.2.1, .int q127.2.2.2.2.1, .int ss])), (la, .inr (1, [.int (nI pid), va_rf nx, .int ct, .int tw, .long ck, .int q127.2.2.2.2.2, va_rf se, va_rf pi])), (tp, .inr (0, [.ref a, .int q127.2.1])), (a, .inl (cB, 9400, .inl q127.1))]) hD hS hA [0, 1, 2, 3] rfl
            refine va_callv (va_runV (As := [.int (if how &&& 16 = 0 then 0 else 1), .long t1]) (rest := []) ⟨hx, hb, hml, hown, hts⟩ (c_Writer_putFlagAndTime l D H.size cB w tp a q127 ss la nx se pi ct tw ck pid w0 tot T0 (((B ++ bsL 127 1) ++ bsL ((obF how).toInt64) 1) ++ bsL 127 1) (if how &&& 16 = 0 then 0 else 1) t1 e127 htot hT hpid hw0 (by (try simp only [List.length_append, bs_len, List.length_nil, ph_len]); omega)) (z_cV hN wd_1069 wd_85 wd_1066 hd_Writer_putFlagAndTime rfl rfl ⟨Nat.le_of_ble_eq_true rfl, Nat.le_of_ble_eq_true rfl⟩ wd_1068 wd_27) (z_preVm (va_recv (ci := 10) (q0 := 0) hK hP rfl rfl) hPc hKc hN hDc) rfl rfl hl.1 rfl (lv_room (Nat.le_of_ble_eq_true rfl)) d_Writer_putOrderBody_150 ⟨Nat.le_of_ble_eq_true rfl, Nat.le_of_ble_eq_true rfl⟩) hS (fun q _ h => hFc q h) hFc (fun q150 t H locs ht hvm e150 hB hz1 hk1 hS => ?_)
            obtain ⟨hP1, hK1, hD1⟩ := hB
            rw [ht] at hP1
            obtain ⟨hP, hD⟩ := va_join (wr := []) (w1 := [(w, .inr (10, [.ref tp, .ref la, .int q150.2.2.1, .int q150.2.2.2.1, .int q150.2.2.2.2.1, .int ss])), (la, .inr (1, [.int (nI pid), va_rf nx, .int ct, .int tw, .long ck, .int q150.2.2.2.2.2, va_rf se, va_rf pi])), (tp, .inr (0, [.ref a, .int q150.2.1])), (a, .inl (cB, 9400, .inl q150.1))]) hP hD [0, 1, 2, 3] [] rfl rfl (by decide) (by decide) hk1 hFc hP1 hD1
            clear hk1 hP1 hD1 hFc hPc hDc hz1
            have hP : va_P D classes [(w, .inr (10, [.ref tp, .ref la, .int q150.2.2.1, .int q150.2.2.2.1, .int q150.2.2.2.2.1, .int ss])), (la, .inr (1, [.int (nI pid), va_rf nx, .int ct, .int tw, .long ck, .int q150.2.2.2.2.2, va_rf se, va_rf pi])), (tp, .inr (0, [.ref a, .int q150.2.1])), (a, .inl (cB, 9400, .inl q150.1))] H := hP
            have hD : va_D A [(w, .inr (10, [.ref tp, .ref la, .int q150.2.2.1, .int q150.2.2.2.1, .int q150.2.2.2.2.1, .int ss])), (la, .inr (1, [.int (nI pid), va_rf nx, .int ct, .int tw, .long ck, .int q150.2.2.2.2.2, va_rf se, va_rf pi])), (tp, .inr (0, [.ref a, .int q150.2.1])), (a, .inl (cB, 9400, .inl q150.1))] := hD
            refine lv_aload_n hx hb d_Writer_putOrderBody_153 rfl (lv_at hl 2 rfl) ?_
            refine lv_ldc2 hx hb hown (hts _ wd_1072) d_Writer_putOrderBody_154 ?_
            refine lv_iconst (v := 4) hx hb d_Writer_putOrderBody_157 (by decide) ?_
            have hPc := hP.sub (ws' := [(w, .inr (10, [.ref tp, .ref la, .int q150.2.2.1, .int q150.2.2.2.1, .int q150.2.2.2.2.1, .int ss])), (la, .inr (1, [.int (nI pid), va_rf nx, .int ct, .int tw, .long ck, .int q150.2.2.2.2.2, va_rf se, va_rf pi])), (tp, .inr (0, [.ref a, .int q150.2.1])), (a, .inl (cB, 9400, .inl q150.1))]) [0, 1, 2, 3] rfl
            have hKc := hK.sub (tys' := [(cB, .byte)]) [0] rfl
            have hDc := hD.sub (ws' := [(w, .inr (10, [.ref tp, .ref la, .int q150.2.2.1, .int q150.2.2.2.1, .int q150.2.2.2.2.1, .int ss])), (la, .inr (1, [.int (nI pid), va_rf nx, .int ct, .int tw, .long ck, .int q150.2.2.2.2.2, va_rf se, va_rf pi])), (tp, .inr (0, [.ref a, .int q150.2.1])), (a, .inl (cB, 9400, .inl q150.1))]) [0, 1, 2, 3] (by decide) rfl
            have hFc := va_free (wc := [(w, .inr (10, [.ref tp, .ref la, .int q150.2.2.1, .int q150.2.2.2.1, .int q150.2.2.2.2.1, .int ss])), (la, .inr (1, [.int (nI pid), va_rf nx, .int ct, .int tw, .long ck, .int q150.2.2.2.2.2, va_rf se, va_rf pi])), (tp, .inr (0, [.ref a, .int q150.2.1])), (a, .inl (cB, 9400, .inl q150.1))]) hD hS hA [0, 1, 2, 3] rfl
            refine va_callv (va_runV (As := [.long (-1), .int (nI 4)]) (rest := []) ⟨hx, hb, hml, hown, hts⟩ (c_Writer_putNumber l D H.size cB w tp a q150 ss la nx se pi ct tw ck pid w0 tot T0 ((((B ++ bsL 127 1) ++ bsL ((obF how).toInt64) 1) ++ bsL 127 1) ++ bsL (ftV (if how &&& 16 = 0 then 0 else 1) t1) 5) (-1) 4 e150 htot hT hpid hw0 (by (try simp only [List.length_append, bs_len, List.length_nil, ph_len]); omega) (by omega) (by omega)) (z_cV hN wd_988 wd_85 wd_985 hd_Writer_putNumber rfl rfl ⟨Nat.le_of_ble_eq_true rfl, Nat.le_of_ble_eq_true rfl⟩ wd_987 wd_23) (z_preVm (va_recv (ci := 10) (q0 := 0) hK hP rfl rfl) hPc hKc hN hDc) rfl rfl hl.1 rfl (lv_room (Nat.le_of_ble_eq_true rfl)) d_Writer_putOrderBody_158 ⟨Nat.le_of_ble_eq_true rfl, Nat.le_of_ble_eq_true rfl⟩) hS (fun q _ h => hFc q h) hFc (fun q158 t H locs ht hvm e158 hB hz1 hk1 hS => ?_)
            obtain ⟨hP1, hK1, hD1⟩ := hB
            rw [ht] at hP1
            obtain ⟨hP, hD⟩ := va_join (wr := []) (w1 := [(w, .inr (10, [.ref tp, .ref la, .int q158.2.2.1, .int q158.2.2.2.1, .int q158.2.2.2.2.1, .int ss])), (la, .inr (1, [.int (nI pid), va_rf nx, .int ct, .int tw, .long ck, .int q158.2.2.2.2.2, va_rf se, va_rf pi])), (tp, .inr (0, [.ref a, .int q158.2.1])), (a, .inl (cB, 9400, .inl q158.1))]) hP hD [0, 1, 2, 3] [] rfl rfl (by decide) (by decide) hk1 hFc hP1 hD1
            clear hk1 hP1 hD1 hFc hPc hDc hz1
            have hP : va_P D classes [(w, .inr (10, [.ref tp, .ref la, .int q158.2.2.1, .int q158.2.2.2.1, .int q158.2.2.2.2.1, .int ss])), (la, .inr (1, [.int (nI pid), va_rf nx, .int ct, .int tw, .long ck, .int q158.2.2.2.2.2, va_rf se, va_rf pi])), (tp, .inr (0, [.ref a, .int q158.2.1])), (a, .inl (cB, 9400, .inl q158.1))] H := hP
            have hD : va_D A [(w, .inr (10, [.ref tp, .ref la, .int q158.2.2.1, .int q158.2.2.2.1, .int q158.2.2.2.2.1, .int ss])), (la, .inr (1, [.int (nI pid), va_rf nx, .int ct, .int tw, .long ck, .int q158.2.2.2.2.2, va_rf se, va_rf pi])), (tp, .inr (0, [.ref a, .int q158.2.1])), (a, .inl (cB, 9400, .inl q158.1))] := hD
            have hP9 := hP.sub (ws' := [(w, .inr (10, [.ref tp, .ref la, .int q158.2.2.1, .int q158.2.2.2.1, .int q158.2.2.2.2.1, .int ss])), (la, .inr (1, [.int (nI pid), va_rf nx, .int ct, .int tw, .long ck, .int q158.2.2.2.2.2, va_rf se, va_rf pi])), (tp, .inr (0, [.ref a, .int q158.2.1])), (a, .inl (cB, 9400, .inl q158.1))]) [0, 1, 2, 3] rfl
            have hD9 := hD.sub (ws' := [(w, .inr (10, [.ref tp, .ref la, .int q158.2.2.1, .int q158.2.2.2.1, .int q158.2.2.2.2.1, .int ss])), (la, .inr (1, [.int (nI pid), va_rf nx, .int ct, .int tw, .long ck, .int q158.2.2.2.2.2, va_rf se, va_rf pi])), (tp, .inr (0, [.ref a, .int q158.2.1])), (a, .inl (cB, 9400, .inl q158.1))]) [0, 1, 2, 3] (by decide) rfl
            have hK9 := hK.sub (tys' := [(cB, .byte)]) [0] rfl
            exact W.vret hx hb hr (fun t ht hW => ⟨⟨q158, rfl, (by have hz := e158; unfold obL; first | (exfalso; exact absurd h4b h4) | (exfalso; exact absurd h4 h4b) | (simp only [h1, h4, h8, if_true, if_false]; first | (rw [if_pos h105]; simpa only [List.append_assoc, List.append_nil, List.nil_append] using hz) | (rw [if_neg h105]; simpa only [List.append_assoc, List.append_nil, List.nil_append] using hz) | (simpa only [List.append_assoc, List.append_nil, List.nil_append] using hz))), ⟨by rw [ht]; exact hP9, va_K.moved hW.alike hK9, hD9⟩⟩, hS.F ht⟩) hS.2.2 d_Writer_putOrderBody_161
      · refine lv_aload_n hx hb d_Writer_putOrderBody_108 rfl (lv_at hl 2 rfl) ?_
        refine lv_iconst (v := 1) hx hb d_Writer_putOrderBody_109 (by decide) ?_
        refine lv_lload_n hx hb d_Writer_putOrderBody_110 rfl (lv_at hl 4 rfl) ?_
        have hPc := hP.sub (ws' := [(w, .inr (10, [.ref tp, .ref la, .int q93.2.2.1, .int q93.2.2.2.1, .int q93.2.2.2.2.1, .int ss])), (la, .inr (1, [.int (nI pid), va_rf nx, .int ct, .int tw, .long ck, .int q93.2.2.2.2.2, va_rf se, va_rf pi])), (tp, .inr (0, [.ref a, .int q93.2.1])), (a, .inl (cB, 9400, .inl q93.1))]) [0, 1, 2, 3] rfl
        have hKc := hK.sub (tys' := [(cB, .byte)]) [0] rfl
        have hDc := hD.sub (ws' := [(w, .inr (10, [.ref tp, .ref la, .int q93.2.2.1, .int q93.2.2.2.1, .int q93.2.2.2.2.1, .int ss])), (la, .inr (1, [.int (nI pid), va_rf nx, .int ct, .int tw, .long ck, .int q93.2.2.2.2.2, va_rf se, va_rf pi])), (tp, .inr (0, [.ref a, .int q93.2.1])), (a, .inl (cB, 9400, .inl q93.1))]) [0, 1, 2, 3] (by decide) rfl
        have hFc := va_free (wc := [(w, .inr (10, [.ref tp, .ref la, .int q93.2.2.1, .int q93.2.2.2.1, .int q93.2.2.2.2.1, .int ss])), (la, .inr (1, [.int (nI pid), va_rf nx, .int ct, .int tw, .long ck, .int q93.2.2.2.2.2, va_rf se, va_rf pi])), (tp, .inr (0, [.ref a, .int q93.2.1])), (a, .inl (cB, 9400, .inl q93.1))]) hD hS hA [0, 1, 2, 3] rfl
        refine va_callv (va_runV (As := [.int 1, .long t0]) (rest := []) ⟨hx, hb, hml, hown, hts⟩ (c_Writer_putFlagAndTime l D H.size cB w tp a q93 ss la nx se pi ct tw ck pid w0 tot T0 ((B ++ bsL 127 1) ++ bsL ((obF how).toInt64) 1) 1 t0 e93 htot hT hpid hw0 (by (try simp only [List.length_append, bs_len, List.length_nil, ph_len]); omega)) (z_cV hN wd_1069 wd_85 wd_1066 hd_Writer_putFlagAndTime rfl rfl ⟨Nat.le_of_ble_eq_true rfl, Nat.le_of_ble_eq_true rfl⟩ wd_1068 wd_27) (z_preVm (va_recv (ci := 10) (q0 := 0) hK hP rfl rfl) hPc hKc hN hDc) rfl rfl hl.1 rfl (lv_room (Nat.le_of_ble_eq_true rfl)) d_Writer_putOrderBody_111 ⟨Nat.le_of_ble_eq_true rfl, Nat.le_of_ble_eq_true rfl⟩) hS (fun q _ h => hFc q h) hFc (fun q111 t H locs ht hvm e111 hB hz1 hk1 hS => ?_)
        obtain ⟨hP1, hK1, hD1⟩ := hB
        rw [ht] at hP1
        obtain ⟨hP, hD⟩ := va_join (wr := []) (w1 := [(w, .inr (10, [.ref tp, .ref la, .int q111.2.2.1, .int q111.2.2.2.1, .int q111.2.2.2.2.1, .int ss])), (la, .inr (1, [.int (nI pid), va_rf nx, .int ct, .int tw, .long ck, .int q111.2.2.2.2.2, va_rf se, va_rf pi])), (tp, .inr (0, [.ref a, .int q111.2.1])), (a, .inl (cB, 9400, .inl q111.1))]) hP hD [0, 1, 2, 3] [] rfl rfl (by decide) (by decide) hk1 hFc hP1 hD1
        clear hk1 hP1 hD1 hFc hPc hDc hz1
        have hP : va_P D classes [(w, .inr (10, [.ref tp, .ref la, .int q111.2.2.1, .int q111.2.2.2.1, .int q111.2.2.2.2.1, .int ss])), (la, .inr (1, [.int (nI pid), va_rf nx, .int ct, .int tw, .long ck, .int q111.2.2.2.2.2, va_rf se, va_rf pi])), (tp, .inr (0, [.ref a, .int q111.2.1])), (a, .inl (cB, 9400, .inl q111.1))] H := hP
        have hD : va_D A [(w, .inr (10, [.ref tp, .ref la, .int q111.2.2.1, .int q111.2.2.2.1, .int q111.2.2.2.2.1, .int ss])), (la, .inr (1, [.int (nI pid), va_rf nx, .int ct, .int tw, .long ck, .int q111.2.2.2.2.2, va_rf se, va_rf pi])), (tp, .inr (0, [.ref a, .int q111.2.1])), (a, .inl (cB, 9400, .inl q111.1))] := hD
        refine lv_goto (tgt := 130) hx hb d_Writer_putOrderBody_114 rfl ?_
        refine lv_iload hx hb d_Writer_putOrderBody_130 (lv_at hl 1 rfl) ?_
        refine lv_if_eq (tgt := 153) hx hb d_Writer_putOrderBody_132 rfl (fun h132 => ?_) (fun h132 => ?_)
        · have h8 : how &&& 8 = 0 := (ob_i rfl).mp h132
          refine lv_aload_n hx hb d_Writer_putOrderBody_153 rfl (lv_at hl 2 rfl) ?_
          refine lv_ldc2 hx hb hown (hts _ wd_1072) d_Writer_putOrderBody_154 ?_
          refine lv_iconst (v := 4) hx hb d_Writer_putOrderBody_157 (by decide) ?_
          have hPc := hP.sub (ws' := [(w, .inr (10, [.ref tp, .ref la, .int q111.2.2.1, .int q111.2.2.2.1, .int q111.2.2.2.2.1, .int ss])), (la, .inr (1, [.int (nI pid), va_rf nx, .int ct, .int tw, .long ck, .int q111.2.2.2.2.2, va_rf se, va_rf pi])), (tp, .inr (0, [.ref a, .int q111.2.1])), (a, .inl (cB, 9400, .inl q111.1))]) [0, 1, 2, 3] rfl
          have hKc := hK.sub (tys' := [(cB, .byte)]) [0] rfl
          have hDc := hD.sub (ws' := [(w, .inr (10, [.ref tp, .ref la, .int q111.2.2.1, .int q111.2.2.2.1, .int q111.2.2.2.2.1, .int ss])), (la, .inr (1, [.int (nI pid), va_rf nx, .int ct, .int tw, .long ck, .int q111.2.2.2.2.2, va_rf se, va_rf pi])), (tp, .inr (0, [.ref a, .int q111.2.1])), (a, .inl (cB, 9400, .inl q111.1))]) [0, 1, 2, 3] (by decide) rfl
          have hFc := va_free (wc := [(w, .inr (10, [.ref tp, .ref la, .int q111.2.2.1, .int q111.2.2.2.1, .int q111.2.2.2.2.1, .int ss])), (la, .inr (1, [.int (nI pid), va_rf nx, .int ct, .int tw, .long ck, .int q111.2.2.2.2.2, va_rf se, va_rf pi])), (tp, .inr (0, [.ref a, .int q111.2.1])), (a, .inl (cB, 9400, .inl q111.1))]) hD hS hA [0, 1, 2, 3] rfl
          refine va_callv (va_runV (As := [.long (-1), .int (nI 4)]) (rest := []) ⟨hx, hb, hml, hown, hts⟩ (c_Writer_putNumber l D H.size cB w tp a q111 ss la nx se pi ct tw ck pid w0 tot T0 (((B ++ bsL 127 1) ++ bsL ((obF how).toInt64) 1) ++ bsL (ftV 1 t0) 5) (-1) 4 e111 htot hT hpid hw0 (by (try simp only [List.length_append, bs_len, List.length_nil, ph_len]); omega) (by omega) (by omega)) (z_cV hN wd_988 wd_85 wd_985 hd_Writer_putNumber rfl rfl ⟨Nat.le_of_ble_eq_true rfl, Nat.le_of_ble_eq_true rfl⟩ wd_987 wd_23) (z_preVm (va_recv (ci := 10) (q0 := 0) hK hP rfl rfl) hPc hKc hN hDc) rfl rfl hl.1 rfl (lv_room (Nat.le_of_ble_eq_true rfl)) d_Writer_putOrderBody_158 ⟨Nat.le_of_ble_eq_true rfl, Nat.le_of_ble_eq_true rfl⟩) hS (fun q _ h => hFc q h) hFc (fun q158 t H locs ht hvm e158 hB hz1 hk1 hS => ?_)
          obtain ⟨hP1, hK1, hD1⟩ := hB
          rw [ht] at hP1
          obtain ⟨hP, hD⟩ := va_join (wr := []) (w1 := [(w, .inr (10, [.ref tp, .ref la, .int q158.2.2.1, .int q158.2.2.2.1, .int q158.2.2.2.2.1, .int ss])), (la, .inr (1, [.int (nI pid), va_rf nx, .int ct, .int tw, .long ck, .int q158.2.2.2.2.2, va_rf se, va_rf pi])), (tp, .inr (0, [.ref a, .int q158.2.1])), (a, .inl (cB, 9400, .inl q158.1))]) hP hD [0, 1, 2, 3] [] rfl rfl (by decide) (by decide) hk1 hFc hP1 hD1
          clear hk1 hP1 hD1 hFc hPc hDc hz1
          have hP : va_P D classes [(w, .inr (10, [.ref tp, .ref la, .int q158.2.2.1, .int q158.2.2.2.1, .int q158.2.2.2.2.1, .int ss])), (la, .inr (1, [.int (nI pid), va_rf nx, .int ct, .int tw, .long ck, .int q158.2.2.2.2.2, va_rf se, va_rf pi])), (tp, .inr (0, [.ref a, .int q158.2.1])), (a, .inl (cB, 9400, .inl q158.1))] H := hP
          have hD : va_D A [(w, .inr (10, [.ref tp, .ref la, .int q158.2.2.1, .int q158.2.2.2.1, .int q158.2.2.2.2.1, .int ss])), (la, .inr (1, [.int (nI pid), va_rf nx, .int ct, .int tw, .long ck, .int q158.2.2.2.2.2, va_rf se, va_rf pi])), (tp, .inr (0, [.ref a, .int q158.2.1])), (a, .inl (cB, 9400, .inl q158.1))] := hD
          have hP9 := hP.sub (ws' := [(w, .inr (10, [.ref tp, .ref la, .int q158.2.2.1, .int q158.2.2.2.1, .int q158.2.2.2.2.1, .int ss])), (la, .inr (1, [.int (nI pid), va_rf nx, .int ct, .int tw, .long ck, .int q158.2.2.2.2.2, va_rf se, va_rf pi])), (tp, .inr (0, [.ref a, .int q158.2.1])), (a, .inl (cB, 9400, .inl q158.1))]) [0, 1, 2, 3] rfl
          have hD9 := hD.sub (ws' := [(w, .inr (10, [.ref tp, .ref la, .int q158.2.2.1, .int q158.2.2.2.1, .int q158.2.2.2.2.1, .int ss])), (la, .inr (1, [.int (nI pid), va_rf nx, .int ct, .int tw, .long ck, .int q158.2.2.2.2.2, va_rf se, va_rf pi])), (tp, .inr (0, [.ref a, .int q158.2.1])), (a, .inl (cB, 9400, .inl q158.1))]) [0, 1, 2, 3] (by decide) rfl
          have hK9 := hK.sub (tys' := [(cB, .byte)]) [0] rfl
          exact W.vret hx hb hr (fun t ht hW => ⟨⟨q158, rfl, (by have hz := e158; unfold obL; first | (exfalso; exact absurd h4b h4) | (exfalso; exact absurd h4 h4b) | (simp only [h1, h4, h8, if_true, if_false]; first | (rw [if_pos h105]; simpa only [List.append_assoc, List.append_nil, List.nil_append] using hz) | (rw [if_neg h105]; simpa only [List.append_assoc, List.append_nil, List.nil_append] using hz) | (simpa only [List.append_assoc, List.append_nil, List.nil_append] using hz))), ⟨by rw [ht]; exact hP9, va_K.moved hW.alike hK9, hD9⟩⟩, hS.F ht⟩) hS.2.2 d_Writer_putOrderBody_161
        · have h8 : ¬ how &&& 8 = 0 := mt (ob_i rfl).mpr h132
          refine lv_aload_n hx hb d_Writer_putOrderBody_135 rfl (lv_at hl 2 rfl) ?_
          refine lv_iload_n hx hb d_Writer_putOrderBody_136 rfl (lv_at hl 3 rfl) ?_
          refine lv_bipush (v := 16) hx hb d_Writer_putOrderBody_137 (by decide) ?_
          refine lv_iand hx hb d_Writer_putOrderBody_139 ?_
          suffices key140 : W p l e ({ frames := 4, cells := 0, slots := 0, locals := 90 }) s m ([.ref w, .int how, .long t0, .long t1]).toArray below meth cd H locs 0 0 (MQ below (va_Qv (fun (u : WQ) => WS pid w0 tot T0 (B ++ obL how t0 t1) u) (fun (u : WQ) t => zW D (A) [(w, .inr (10, [.ref tp, .ref la, .int u.2.2.1, .int u.2.2.2.1, .int u.2.2.2.2.1, .int ss])), (la, .inr (1, [.int (nI pid), va_rf nx, .int ct, .int tw, .long ck, .int u.2.2.2.2.2, va_rf se, va_rf pi])), (tp, .inr (0, [.ref a, .int u.2.1])), (a, .inl (cB, 9400, .inl u.1))] [(cB, .byte)] t) (A)) ([.ref w, .int how, .long t0, .long t1]).toArray s 0 0 (A)) (F0 m 148 ls [.int (if how &&& 16 = 0 then 0 else 1), .ref w]) by
            refine lv_if_eq (tgt := 147) hx hb d_Writer_putOrderBody_140 rfl (fun h140 => ?_) (fun h140 => ?_)
            · refine lv_iconst (v := 0) hx hb d_Writer_putOrderBody_147 (by decide) ?_
              refine z_topi (w := (if how &&& 16 = 0 then 0 else 1)) ((if_pos h140).symm) ?_
              exact key140
            · refine lv_iconst (v := 1) hx hb d_Writer_putOrderBody_143 (by decide) ?_
              refine lv_goto (tgt := 148) hx hb d_Writer_putOrderBody_144 rfl ?_
              refine z_topi (w := (if how &&& 16 = 0 then 0 else 1)) ((if_neg h140).symm) ?_
              exact key140
          refine lv_lload hx hb d_Writer_putOrderBody_148 (lv_at hl 5 rfl) ?_
          have hPc := hP.sub (ws' := [(w, .inr (10, [.ref tp, .ref la, .int q111.2.2.1, .int q111.2.2.2.1, .int q111.2.2.2.2.1, .int ss])), (la, .inr (1, [.int (nI pid), va_rf nx, .int ct, .int tw, .long ck, .int q111.2.2.2.2.2, va_rf se, va_rf pi])), (tp, .inr (0, [.ref a, .int q111.2.1])), (a, .inl (cB, 9400, .inl q111.1))]) [0, 1, 2, 3] rfl
          have hKc := hK.sub (tys' := [(cB, .byte)]) [0] rfl
          have hDc := hD.sub (ws' := [(w, .inr (10, [.ref tp, .ref la, .int q111.2.2.1, .int q111.2.2.2.1, .int q111.2.2.2.2.1, .int ss])), (la, .inr (1, [.int (nI pid), va_rf nx, .int ct, .int tw, .long ck, .int q111.2.2.2.2.2, va_rf se, va_rf pi])), (tp, .inr (0, [.ref a, .int q111.2.1])), (a, .inl (cB, 9400, .inl q111.1))]) [0, 1, 2, 3] (by decide) rfl
          have hFc := va_free (wc := [(w, .inr (10, [.ref tp, .ref la, .int q111.2.2.1, .int q111.2.2.2.1, .int q111.2.2.2.2.1, .int ss])), (la, .inr (1, [.int (nI pid), va_rf nx, .int ct, .int tw, .long ck, .int q111.2.2.2.2.2, va_rf se, va_rf pi])), (tp, .inr (0, [.ref a, .int q111.2.1])), (a, .inl (cB, 9400, .inl q111.1))]) hD hS hA [0, 1, 2, 3] rfl
          refine va_callv (va_runV (As := [.int (if how &&& 16 = 0 then 0 else 1), .long t1]) (rest := []) ⟨hx, hb, hml, hown, hts⟩ (c_Writer_putFlagAndTime l D H.size cB w tp a q111 ss la nx se pi ct tw ck pid w0 tot T0 (((B ++ bsL 127 1) ++ bsL ((obF how).toInt64) 1) ++ bsL (ftV 1 t0) 5) (if how &&& 16 = 0 then 0 else 1) t1 e111 htot hT hpid hw0 (by (try simp only [List.length_append, bs_len, List.length_nil, ph_len]); omega)) (z_cV hN wd_1069 wd_85 wd_1066 hd_Writer_putFlagAndTime rfl rfl ⟨Nat.le_of_ble_eq_true rfl, Nat.le_of_ble_eq_true rfl⟩ wd_1068 wd_27) (z_preVm (va_recv (ci := 10) (q0 := 0) hK hP rfl rfl) hPc hKc hN hDc) rfl rfl hl.1 rfl (lv_room (Nat.le_of_ble_eq_true rfl)) d_Writer_putOrderBody_150 ⟨Nat.le_of_ble_eq_true rfl, Nat.le_of_ble_eq_true rfl⟩) hS (fun q _ h => hFc q h) hFc (fun q150 t H locs ht hvm e150 hB hz1 hk1 hS => ?_)
          obtain ⟨hP1, hK1, hD1⟩ := hB
          rw [ht] at hP1
          obtain ⟨hP, hD⟩ := va_join (wr := []) (w1 := [(w, .inr (10, [.ref tp, .ref la, .int q150.2.2.1, .int q150.2.2.2.1, .int q150.2.2.2.2.1, .int ss])), (la, .inr (1, [.int (nI pid), va_rf nx, .int ct, .int tw, .long ck, .int q150.2.2.2.2.2, va_rf se, va_rf pi])), (tp, .inr (0, [.ref a, .int q150.2.1])), (a, .inl (cB, 9400, .inl q150.1))]) hP hD [0, 1, 2, 3] [] rfl rfl (by decide) (by decide) hk1 hFc hP1 hD1
          clear hk1 hP1 hD1 hFc hPc hDc hz1
          have hP : va_P D classes [(w, .inr (10, [.ref tp, .ref la, .int q150.2.2.1, .int q150.2.2.2.1, .int q150.2.2.2.2.1, .int ss])), (la, .inr (1, [.int (nI pid), va_rf nx, .int ct, .int tw, .long ck, .int q150.2.2.2.2.2, va_rf se, va_rf pi])), (tp, .inr (0, [.ref a, .int q150.2.1])), (a, .inl (cB, 9400, .inl q150.1))] H := hP
          have hD : va_D A [(w, .inr (10, [.ref tp, .ref la, .int q150.2.2.1, .int q150.2.2.2.1, .int q150.2.2.2.2.1, .int ss])), (la, .inr (1, [.int (nI pid), va_rf nx, .int ct, .int tw, .long ck, .int q150.2.2.2.2.2, va_rf se, va_rf pi])), (tp, .inr (0, [.ref a, .int q150.2.1])), (a, .inl (cB, 9400, .inl q150.1))] := hD
          refine lv_aload_n hx hb d_Writer_putOrderBody_153 rfl (lv_at hl 2 rfl) ?_
          refine lv_ldc2 hx hb hown (hts _ wd_1072) d_Writer_putOrderBody_154 ?_
          refine lv_iconst (v := 4) hx hb d_Writer_putOrderBody_157 (by decide) ?_
          have hPc := hP.sub (ws' := [(w, .inr (10, [.ref tp, .ref la, .int q150.2.2.1, .int q150.2.2.2.1, .int q150.2.2.2.2.1, .int ss])), (la, .inr (1, [.int (nI pid), va_rf nx, .int ct, .int tw, .long ck, .int q150.2.2.2.2.2, va_rf se, va_rf pi])), (tp, .inr (0, [.ref a, .int q150.2.1])), (a, .inl (cB, 9400, .inl q150.1))]) [0, 1, 2, 3] rfl
          have hKc := hK.sub (tys' := [(cB, .byte)]) [0] rfl
          have hDc := hD.sub (ws' := [(w, .inr (10, [.ref tp, .ref la, .int q150.2.2.1, .int q150.2.2.2.1, .int q150.2.2.2.2.1, .int ss])), (la, .inr (1, [.int (nI pid), va_rf nx, .int ct, .int tw, .long ck, .int q150.2.2.2.2.2, va_rf se, va_rf pi])), (tp, .inr (0, [.ref a, .int q150.2.1])), (a, .inl (cB, 9400, .inl q150.1))]) [0, 1, 2, 3] (by decide) rfl
          have hFc := va_free (wc := [(w, .inr (10, [.ref tp, .ref la, .int q150.2.2.1, .int q150.2.2.2.1, .int q150.2.2.2.2.1, .int ss])), (la, .inr (1, [.int (nI pid), va_rf nx, .int ct, .int tw, .long ck, .int q150.2.2.2.2.2, va_rf se, va_rf pi])), (tp, .inr (0, [.ref a, .int q150.2.1])), (a, .inl (cB, 9400, .inl q150.1))]) hD hS hA [0, 1, 2, 3] rfl
          refine va_callv (va_runV (As := [.long (-1), .int (nI 4)]) (rest := []) ⟨hx, hb, hml, hown, hts⟩ (c_Writer_putNumber l D H.size cB w tp a q150 ss la nx se pi ct tw ck pid w0 tot T0 ((((B ++ bsL 127 1) ++ bsL ((obF how).toInt64) 1) ++ bsL (ftV 1 t0) 5) ++ bsL (ftV (if how &&& 16 = 0 then 0 else 1) t1) 5) (-1) 4 e150 htot hT hpid hw0 (by (try simp only [List.length_append, bs_len, List.length_nil, ph_len]); omega) (by omega) (by omega)) (z_cV hN wd_988 wd_85 wd_985 hd_Writer_putNumber rfl rfl ⟨Nat.le_of_ble_eq_true rfl, Nat.le_of_ble_eq_true rfl⟩ wd_987 wd_23) (z_preVm (va_recv (ci := 10) (q0 := 0) hK hP rfl rfl) hPc hKc hN hDc) rfl rfl hl.1 rfl (lv_room (Nat.le_of_ble_eq_true rfl)) d_Writer_putOrderBody_158 ⟨Nat.le_of_ble_eq_true rfl, Nat.le_of_ble_eq_true rfl⟩) hS (fun q _ h => hFc q h) hFc (fun q158 t H locs ht hvm e158 hB hz1 hk1 hS => ?_)
          obtain ⟨hP1, hK1, hD1⟩ := hB
          rw [ht] at hP1
          obtain ⟨hP, hD⟩ := va_join (wr := []) (w1 := [(w, .inr (10, [.ref tp, .ref la, .int q158.2.2.1, .int q158.2.2.2.1, .int q158.2.2.2.2.1, .int ss])), (la, .inr (1, [.int (nI pid), va_rf nx, .int ct, .int tw, .long ck, .int q158.2.2.2.2.2, va_rf se, va_rf pi])), (tp, .inr (0, [.ref a, .int q158.2.1])), (a, .inl (cB, 9400, .inl q158.1))]) hP hD [0, 1, 2, 3] [] rfl rfl (by decide) (by decide) hk1 hFc hP1 hD1
          clear hk1 hP1 hD1 hFc hPc hDc hz1
          have hP : va_P D classes [(w, .inr (10, [.ref tp, .ref la, .int q158.2.2.1, .int q158.2.2.2.1, .int q158.2.2.2.2.1, .int ss])), (la, .inr (1, [.int (nI pid), va_rf nx, .int ct, .int tw, .long ck, .int q158.2.2.2.2.2, va_rf se, va_rf pi])), (tp, .inr (0, [.ref a, .int q158.2.1])), (a, .inl (cB, 9400, .inl q158.1))] H := hP
          have hD : va_D A [(w, .inr (10, [.ref tp, .ref la, .int q158.2.2.1, .int q158.2.2.2.1, .int q158.2.2.2.2.1, .int ss])), (la, .inr (1, [.int (nI pid), va_rf nx, .int ct, .int tw, .long ck, .int q158.2.2.2.2.2, va_rf se, va_rf pi])), (tp, .inr (0, [.ref a, .int q158.2.1])), (a, .inl (cB, 9400, .inl q158.1))] := hD
          have hP9 := hP.sub (ws' := [(w, .inr (10, [.ref tp, .ref la, .int q158.2.2.1, .int q158.2.2.2.1, .int q158.2.2.2.2.1, .int ss])), (la, .inr (1, [.int (nI pid), va_rf nx, .int ct, .int tw, .long ck, .int q158.2.2.2.2.2, va_rf se, va_rf pi])), (tp, .inr (0, [.ref a, .int q158.2.1])), (a, .inl (cB, 9400, .inl q158.1))]) [0, 1, 2, 3] rfl
          have hD9 := hD.sub (ws' := [(w, .inr (10, [.ref tp, .ref la, .int q158.2.2.1, .int q158.2.2.2.1, .int q158.2.2.2.2.1, .int ss])), (la, .inr (1, [.int (nI pid), va_rf nx, .int ct, .int tw, .long ck, .int q158.2.2.2.2.2, va_rf se, va_rf pi])), (tp, .inr (0, [.ref a, .int q158.2.1])), (a, .inl (cB, 9400, .inl q158.1))]) [0, 1, 2, 3] (by decide) rfl
          have hK9 := hK.sub (tys' := [(cB, .byte)]) [0] rfl
          exact W.vret hx hb hr (fun t ht hW => ⟨⟨q158, rfl, (by have hz := e158; unfold obL; first | (exfalso; exact absurd h4b h4) | (exfalso; exact absurd h4 h4b) | (simp only [h1, h4, h8, if_true, if_false]; first | (rw [if_pos h105]; simpa only [List.append_assoc, List.append_nil, List.nil_append] using hz) | (rw [if_neg h105]; simpa only [List.append_assoc, List.append_nil, List.nil_append] using hz) | (simpa only [List.append_assoc, List.append_nil, List.nil_append] using hz))), ⟨by rw [ht]; exact hP9, va_K.moved hW.alike hK9, hD9⟩⟩, hS.F ht⟩) hS.2.2 d_Writer_putOrderBody_161
  · have h1 : ¬ how &&& 1 = 0 := h3
    refine lv_aload_n hx hb d_Writer_putOrderBody_6 rfl (lv_at hl 0 rfl) ?_
    refine lv_ldc2 hx hb hown (hts _ wd_1009) d_Writer_putOrderBody_7 ?_
    refine lv_iconst (v := 1) hx hb d_Writer_putOrderBody_10 (by decide) ?_
    have hPc := hP.sub (ws' := [(w, .inr (10, [.ref tp, .ref la, .int q0.2.2.1, .int q0.2.2.2.1, .int q0.2.2.2.2.1, .int ss])), (la, .inr (1, [.int (nI pid), va_rf nx, .int ct, .int tw, .long ck, .int q0.2.2.2.2.2, va_rf se, va_rf pi])), (tp, .inr (0, [.ref a, .int q0.2.1])), (a, .inl (cB, 9400, .inl q0.1))]) [0, 1, 2, 3] rfl
    have hKc := hK.sub (tys' := [(cB, .byte)]) [0] rfl
    have hDc := hD.sub (ws' := [(w, .inr (10, [.ref tp, .ref la, .int q0.2.2.1, .int q0.2.2.2.1, .int q0.2.2.2.2.1, .int ss])), (la, .inr (1, [.int (nI pid), va_rf nx, .int ct, .int tw, .long ck, .int q0.2.2.2.2.2, va_rf se, va_rf pi])), (tp, .inr (0, [.ref a, .int q0.2.1])), (a, .inl (cB, 9400, .inl q0.1))]) [0, 1, 2, 3] (by decide) rfl
    have hFc := va_free (wc := [(w, .inr (10, [.ref tp, .ref la, .int q0.2.2.1, .int q0.2.2.2.1, .int q0.2.2.2.2.1, .int ss])), (la, .inr (1, [.int (nI pid), va_rf nx, .int ct, .int tw, .long ck, .int q0.2.2.2.2.2, va_rf se, va_rf pi])), (tp, .inr (0, [.ref a, .int q0.2.1])), (a, .inl (cB, 9400, .inl q0.1))]) hD hS hA [0, 1, 2, 3] rfl
    refine va_callv (va_runV (As := [.long 255, .int (nI 1)]) (rest := []) ⟨hx, hb, hml, hown, hts⟩ (c_Writer_putNumber l D s.heap.size cB w tp a q0 ss la nx se pi ct tw ck pid w0 tot T0 B 255 1 hq0 htot hT hpid hw0 (by (try simp only [List.length_append, bs_len, List.length_nil, ph_len]); omega) (by omega) (by omega)) (z_cV hN wd_988 wd_85 wd_985 hd_Writer_putNumber rfl rfl ⟨Nat.le_of_ble_eq_true rfl, Nat.le_of_ble_eq_true rfl⟩ wd_987 wd_23) (z_preVm (va_recv (ci := 10) (q0 := 0) hK hP rfl rfl) hPc hKc hN hDc) rfl rfl hl.1 rfl (lv_room (Nat.le_of_ble_eq_true rfl)) d_Writer_putOrderBody_11 ⟨Nat.le_of_ble_eq_true rfl, Nat.le_of_ble_eq_true rfl⟩) hS (fun q _ h => hFc q h) hFc (fun q11 t H locs ht hvm e11 hB hz1 hk1 hS => ?_)
    obtain ⟨hP1, hK1, hD1⟩ := hB
    rw [ht] at hP1
    obtain ⟨hP, hD⟩ := va_join (wr := []) (w1 := [(w, .inr (10, [.ref tp, .ref la, .int q11.2.2.1, .int q11.2.2.2.1, .int q11.2.2.2.2.1, .int ss])), (la, .inr (1, [.int (nI pid), va_rf nx, .int ct, .int tw, .long ck, .int q11.2.2.2.2.2, va_rf se, va_rf pi])), (tp, .inr (0, [.ref a, .int q11.2.1])), (a, .inl (cB, 9400, .inl q11.1))]) hP hD [0, 1, 2, 3] [] rfl rfl (by decide) (by decide) hk1 hFc hP1 hD1
    clear hk1 hP1 hD1 hFc hPc hDc hz1
    have hP : va_P D classes [(w, .inr (10, [.ref tp, .ref la, .int q11.2.2.1, .int q11.2.2.2.1, .int q11.2.2.2.2.1, .int ss])), (la, .inr (1, [.int (nI pid), va_rf nx, .int ct, .int tw, .long ck, .int q11.2.2.2.2.2, va_rf se, va_rf pi])), (tp, .inr (0, [.ref a, .int q11.2.1])), (a, .inl (cB, 9400, .inl q11.1))] H := hP
    have hD : va_D A [(w, .inr (10, [.ref tp, .ref la, .int q11.2.2.1, .int q11.2.2.2.1, .int q11.2.2.2.2.1, .int ss])), (la, .inr (1, [.int (nI pid), va_rf nx, .int ct, .int tw, .long ck, .int q11.2.2.2.2.2, va_rf se, va_rf pi])), (tp, .inr (0, [.ref a, .int q11.2.1])), (a, .inl (cB, 9400, .inl q11.1))] := hD
    have hP9 := hP.sub (ws' := [(w, .inr (10, [.ref tp, .ref la, .int q11.2.2.1, .int q11.2.2.2.1, .int q11.2.2.2.2.1, .int ss])), (la, .inr (1, [.int (nI pid), va_rf nx, .int ct, .int tw, .long ck, .int q11.2.2.2.2.2, va_rf se, va_rf pi])), (tp, .inr (0, [.ref a, .int q11.2.1])), (a, .inl (cB, 9400, .inl q11.1))]) [0, 1, 2, 3] rfl
    have hD9 := hD.sub (ws' := [(w, .inr (10, [.ref tp, .ref la, .int q11.2.2.1, .int q11.2.2.2.1, .int q11.2.2.2.2.1, .int ss])), (la, .inr (1, [.int (nI pid), va_rf nx, .int ct, .int tw, .long ck, .int q11.2.2.2.2.2, va_rf se, va_rf pi])), (tp, .inr (0, [.ref a, .int q11.2.1])), (a, .inl (cB, 9400, .inl q11.1))]) [0, 1, 2, 3] (by decide) rfl
    have hK9 := hK.sub (tys' := [(cB, .byte)]) [0] rfl
    exact W.vret hx hb hr (fun t ht hW => ⟨⟨q11, rfl, (by have hz := e11; unfold obL; rw [if_neg h1]; exact hz), ⟨by rw [ht]; exact hP9, va_K.moved hW.alike hK9, hD9⟩⟩, hS.F ht⟩) hS.2.2 d_Writer_putOrderBody_14
