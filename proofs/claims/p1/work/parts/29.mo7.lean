theorem wd_52 : (Jvm.Cond.selects "StreamSplitterModel" ({ cls := "StreamSplitterModel", name := "noProgramme", desc := "(I)Z" } : Jvm.MethodName) ({ cls := "StreamSplitterModel", name := "noProgramme", desc := "(I)Z" } : Jvm.MethodName)) ∈ lw_ok := List.mem_filter.mpr ⟨List.mem_of_getElem? (i := 52) (by decide +kernel), rfl⟩
theorem wd_1087 : (Jvm.Cond.constantLong "StreamSplitterModel" (154 : Nat) (-1 : Int64)) ∈ lw_ok := List.mem_filter.mpr ⟨List.mem_of_getElem? (i := 1087) (by decide +kernel), rfl⟩
theorem wd_1091 : (Jvm.Cond.fieldLink "StreamSplitterModel" (13 : Nat) "StreamSplitterModel" "tells" "[I") ∈ lw_ok := List.mem_filter.mpr ⟨List.mem_of_getElem? (i := 1091) (by decide +kernel), rfl⟩
theorem wd_1094 : (Jvm.Cond.fieldLink "StreamSplitterModel" (23 : Nat) "StreamSplitterModel" "clocks" "[J") ∈ lw_ok := List.mem_filter.mpr ⟨List.mem_of_getElem? (i := 1094) (by decide +kernel), rfl⟩
theorem wd_1106 : (Jvm.Cond.fieldLink "StreamSplitterModel" (57 : Nat) "StreamSplitterModel" "listVersion" "I") ∈ lw_ok := List.mem_filter.mpr ⟨List.mem_of_getElem? (i := 1106) (by decide +kernel), rfl⟩
theorem wd_1107 : (Jvm.Cond.fieldLink "StreamSplitterModel" (181 : Nat) "StreamSplitterModel" "programmes" "I") ∈ lw_ok := List.mem_filter.mpr ⟨List.mem_of_getElem? (i := 1107) (by decide +kernel), rfl⟩
theorem wd_1108 : (Jvm.Cond.fieldLink "StreamSplitterModel" (61 : Nat) "StreamSplitterModel" "numbers" "[I") ∈ lw_ok := List.mem_filter.mpr ⟨List.mem_of_getElem? (i := 1108) (by decide +kernel), rfl⟩
theorem wd_1109 : (Jvm.Cond.fieldLink "StreamSplitterModel" (64 : Nat) "StreamSplitterModel" "pids" "[I") ∈ lw_ok := List.mem_filter.mpr ⟨List.mem_of_getElem? (i := 1109) (by decide +kernel), rfl⟩
theorem wd_1110 : (Jvm.Cond.fieldLink "StreamSplitterModel" (67 : Nat) "StreamSplitterModel" "versions" "[I") ∈ lw_ok := List.mem_filter.mpr ⟨List.mem_of_getElem? (i := 1110) (by decide +kernel), rfl⟩
theorem wd_1111 : (Jvm.Cond.fieldLink "StreamSplitterModel" (70 : Nat) "StreamSplitterModel" "clockPids" "[I") ∈ lw_ok := List.mem_filter.mpr ⟨List.mem_of_getElem? (i := 1111) (by decide +kernel), rfl⟩
theorem wd_1112 : (Jvm.Cond.fieldLink "StreamSplitterModel" (73 : Nat) "StreamSplitterModel" "streams" "[I") ∈ lw_ok := List.mem_filter.mpr ⟨List.mem_of_getElem? (i := 1112) (by decide +kernel), rfl⟩
theorem wd_1113 : (Jvm.Cond.fieldLink "StreamSplitterModel" (76 : Nat) "StreamSplitterModel" "aways" "[Z") ∈ lw_ok := List.mem_filter.mpr ⟨List.mem_of_getElem? (i := 1113) (by decide +kernel), rfl⟩
theorem wd_1114 : (Jvm.Cond.fieldLink "StreamSplitterModel" (79 : Nat) "StreamSplitterModel" "nows" "[J") ∈ lw_ok := List.mem_filter.mpr ⟨List.mem_of_getElem? (i := 1114) (by decide +kernel), rfl⟩
theorem wd_1115 : (Jvm.Cond.fieldLink "StreamSplitterModel" (82 : Nat) "StreamSplitterModel" "waits" "[I") ∈ lw_ok := List.mem_filter.mpr ⟨List.mem_of_getElem? (i := 1115) (by decide +kernel), rfl⟩
theorem wd_1116 : (Jvm.Cond.fieldLink "StreamSplitterModel" (85 : Nat) "StreamSplitterModel" "types" "[I") ∈ lw_ok := List.mem_filter.mpr ⟨List.mem_of_getElem? (i := 1116) (by decide +kernel), rfl⟩
theorem wd_1117 : (Jvm.Cond.fieldLink "StreamSplitterModel" (88 : Nat) "StreamSplitterModel" "streamPids" "[I") ∈ lw_ok := List.mem_filter.mpr ⟨List.mem_of_getElem? (i := 1117) (by decide +kernel), rfl⟩
theorem wd_1118 : (Jvm.Cond.fieldLink "StreamSplitterModel" (91 : Nat) "StreamSplitterModel" "orderTimes" "[J") ∈ lw_ok := List.mem_filter.mpr ⟨List.mem_of_getElem? (i := 1118) (by decide +kernel), rfl⟩
theorem wd_1119 : (Jvm.Cond.fieldLink "StreamSplitterModel" (94 : Nat) "StreamSplitterModel" "orderNames" "[I") ∈ lw_ok := List.mem_filter.mpr ⟨List.mem_of_getElem? (i := 1119) (by decide +kernel), rfl⟩
theorem wd_1120 : (Jvm.Cond.fieldLink "StreamSplitterModel" (97 : Nat) "StreamSplitterModel" "orderAways" "[Z") ∈ lw_ok := List.mem_filter.mpr ⟨List.mem_of_getElem? (i := 1120) (by decide +kernel), rfl⟩
theorem wd_1121 : (Jvm.Cond.fieldLink "StreamSplitterModel" (100 : Nat) "StreamSplitterModel" "orderLengths" "[J") ∈ lw_ok := List.mem_filter.mpr ⟨List.mem_of_getElem? (i := 1121) (by decide +kernel), rfl⟩
theorem wd_1131 : (Jvm.Cond.fieldLink "StreamSplitterModel" (130 : Nat) "StreamSplitterModel" "done" "[J") ∈ lw_ok := List.mem_filter.mpr ⟨List.mem_of_getElem? (i := 1131) (by decide +kernel), rfl⟩
theorem wd_1132 : (Jvm.Cond.fieldLink "StreamSplitterModel" (255 : Nat) "StreamSplitterModel" "pieces" "I") ∈ lw_ok := List.mem_filter.mpr ⟨List.mem_of_getElem? (i := 1132) (by decide +kernel), rfl⟩
theorem wd_1397 : (Jvm.Cond.methodLink "StreamSplitterModel" (270 : Nat) ({ cls := "StreamSplitterModel", name := "noProgramme", desc := "(I)Z" } : Jvm.MethodName)) ∈ lw_ok := List.mem_filter.mpr ⟨List.mem_of_getElem? (i := 1397) (by decide +kernel), rfl⟩
theorem wd_1399 : (Jvm.Cond.instanceMethod ({ cls := "StreamSplitterModel", name := "noProgramme", desc := "(I)Z" } : Jvm.MethodName)) ∈ lw_ok := List.mem_filter.mpr ⟨List.mem_of_getElem? (i := 1399) (by decide +kernel), rfl⟩
set_option maxRecDepth 100000 in
theorem wd_1400 : (Jvm.Cond.code ({ cls := "StreamSplitterModel", name := "noProgramme", desc := "(I)Z" } : Jvm.MethodName) prog_14_method_36_code (2 : Nat) (Option.some Jvm.ClassFile.FieldType.boolean)) ∈ lw_ok := List.mem_filter.mpr ⟨List.mem_of_getElem? (i := 1400) (by rfl), rfl⟩
theorem wd_1405 : (Jvm.Cond.constant "StreamSplitterModel" (273 : Nat) (65536 : Int32)) ∈ lw_ok := List.mem_filter.mpr ⟨List.mem_of_getElem? (i := 1405) (by decide +kernel), rfl⟩
theorem hd_Mo_noProgramme : y_Mo_noProgramme.cls ≠ "java/lang/invoke/MethodHandle" ∧ y_Mo_noProgramme.cls ≠ "java/lang/invoke/VarHandle" ∧ (parseMethodDescriptor y_Mo_noProgramme.desc).map (fun d => d.parameters.length) = some 1 := by decide +kernel
theorem d_Mo_addStream_0 : decode b_Mo_addStream 0 = .ok (.aload_n 0, 1) := by decide +kernel
theorem d_Mo_addStream_1 : decode b_Mo_addStream 1 = .ok (.iload_n 1, 1) := by decide +kernel
theorem d_Mo_addStream_2 : decode b_Mo_addStream 2 = .ok (.ifCond .lt 11, 3) := by decide +kernel
theorem d_Mo_addStream_5 : decode b_Mo_addStream 5 = .ok (.iload_n 1, 1) := by decide +kernel
theorem d_Mo_addStream_6 : decode b_Mo_addStream 6 = .ok (.aload_n 0, 1) := by decide +kernel
theorem d_Mo_addStream_7 : decode b_Mo_addStream 7 = .ok (.getfield 277, 3) := by decide +kernel
theorem d_Mo_addStream_10 : decode b_Mo_addStream 10 = .ok (.if_icmp .lt 7, 3) := by decide +kernel
theorem d_Mo_addStream_13 : decode b_Mo_addStream 13 = .ok (.iconst 1, 1) := by decide +kernel
theorem d_Mo_addStream_14 : decode b_Mo_addStream 14 = .ok (.goto 30, 3) := by decide +kernel
theorem d_Mo_addStream_17 : decode b_Mo_addStream 17 = .ok (.iload_n 2, 1) := by decide +kernel
theorem d_Mo_addStream_18 : decode b_Mo_addStream 18 = .ok (.ifCond .lt 21, 3) := by decide +kernel
theorem d_Mo_addStream_21 : decode b_Mo_addStream 21 = .ok (.iload_n 2, 1) := by decide +kernel
theorem d_Mo_addStream_22 : decode b_Mo_addStream 22 = .ok (.sipush 255, 3) := by decide +kernel
theorem d_Mo_addStream_25 : decode b_Mo_addStream 25 = .ok (.if_icmp .gt 14, 3) := by decide +kernel
theorem d_Mo_addStream_28 : decode b_Mo_addStream 28 = .ok (.iload_n 3, 1) := by decide +kernel
theorem d_Mo_addStream_29 : decode b_Mo_addStream 29 = .ok (.ifCond .lt 10, 3) := by decide +kernel
theorem d_Mo_addStream_32 : decode b_Mo_addStream 32 = .ok (.iload_n 3, 1) := by decide +kernel
theorem d_Mo_addStream_33 : decode b_Mo_addStream 33 = .ok (.sipush 8191, 3) := by decide +kernel
theorem d_Mo_addStream_36 : decode b_Mo_addStream 36 = .ok (.if_icmp .le 7, 3) := by decide +kernel
theorem d_Mo_addStream_39 : decode b_Mo_addStream 39 = .ok (.iconst 2, 1) := by decide +kernel
theorem d_Mo_addStream_40 : decode b_Mo_addStream 40 = .ok (.goto 4, 3) := by decide +kernel
theorem d_Mo_addStream_43 : decode b_Mo_addStream 43 = .ok (.iconst 0, 1) := by decide +kernel
theorem d_Mo_addStream_44 : decode b_Mo_addStream 44 = .ok (.putfield 156, 3) := by decide +kernel
theorem d_Mo_addStream_47 : decode b_Mo_addStream 47 = .ok (.aload_n 0, 1) := by decide +kernel
theorem d_Mo_addStream_48 : decode b_Mo_addStream 48 = .ok (.getfield 156, 3) := by decide +kernel
theorem d_Mo_addStream_51 : decode b_Mo_addStream 51 = .ok (.ifCond .le 5, 3) := by decide +kernel
theorem d_Mo_addStream_54 : decode b_Mo_addStream 54 = .ok (.iconst 0, 1) := by decide +kernel
theorem d_Mo_addStream_55 : decode b_Mo_addStream 55 = .ok (.ireturn, 1) := by decide +kernel
theorem d_Mo_addStream_56 : decode b_Mo_addStream 56 = .ok (.aload_n 0, 1) := by decide +kernel
theorem d_Mo_addStream_57 : decode b_Mo_addStream 57 = .ok (.getfield 139, 3) := by decide +kernel
theorem d_Mo_addStream_60 : decode b_Mo_addStream 60 = .ok (.iload_n 1, 1) := by decide +kernel
theorem d_Mo_addStream_61 : decode b_Mo_addStream 61 = .ok (.iaload, 1) := by decide +kernel
theorem d_Mo_addStream_62 : decode b_Mo_addStream 62 = .ok (.iconst 4, 1) := by decide +kernel
theorem d_Mo_addStream_63 : decode b_Mo_addStream 63 = .ok (.if_icmp .ne 5, 3) := by decide +kernel
theorem d_Mo_addStream_66 : decode b_Mo_addStream 66 = .ok (.iconst (-1), 1) := by decide +kernel
theorem d_Mo_addStream_67 : decode b_Mo_addStream 67 = .ok (.ireturn, 1) := by decide +kernel
theorem d_Mo_addStream_68 : decode b_Mo_addStream 68 = .ok (.aload_n 0, 1) := by decide +kernel
theorem d_Mo_addStream_69 : decode b_Mo_addStream 69 = .ok (.getfield 142, 3) := by decide +kernel
theorem d_Mo_addStream_72 : decode b_Mo_addStream 72 = .ok (.iconst 4, 1) := by decide +kernel
theorem d_Mo_addStream_73 : decode b_Mo_addStream 73 = .ok (.iload_n 1, 1) := by decide +kernel
theorem d_Mo_addStream_74 : decode b_Mo_addStream 74 = .ok (.imul, 1) := by decide +kernel
theorem d_Mo_addStream_75 : decode b_Mo_addStream 75 = .ok (.aload_n 0, 1) := by decide +kernel
theorem d_Mo_addStream_76 : decode b_Mo_addStream 76 = .ok (.getfield 139, 3) := by decide +kernel
theorem d_Mo_addStream_79 : decode b_Mo_addStream 79 = .ok (.iload_n 1, 1) := by decide +kernel
theorem d_Mo_addStream_80 : decode b_Mo_addStream 80 = .ok (.iaload, 1) := by decide +kernel
theorem d_Mo_addStream_81 : decode b_Mo_addStream 81 = .ok (.iadd, 1) := by decide +kernel
theorem d_Mo_addStream_82 : decode b_Mo_addStream 82 = .ok (.iload_n 2, 1) := by decide +kernel
theorem d_Mo_addStream_83 : decode b_Mo_addStream 83 = .ok (.iastore, 1) := by decide +kernel
theorem d_Mo_addStream_84 : decode b_Mo_addStream 84 = .ok (.aload_n 0, 1) := by decide +kernel
theorem d_Mo_addStream_85 : decode b_Mo_addStream 85 = .ok (.getfield 145, 3) := by decide +kernel
theorem d_Mo_addStream_88 : decode b_Mo_addStream 88 = .ok (.iconst 4, 1) := by decide +kernel
theorem d_Mo_addStream_89 : decode b_Mo_addStream 89 = .ok (.iload_n 1, 1) := by decide +kernel
theorem d_Mo_addStream_90 : decode b_Mo_addStream 90 = .ok (.imul, 1) := by decide +kernel
theorem d_Mo_addStream_91 : decode b_Mo_addStream 91 = .ok (.aload_n 0, 1) := by decide +kernel
theorem d_Mo_addStream_92 : decode b_Mo_addStream 92 = .ok (.getfield 139, 3) := by decide +kernel
theorem d_Mo_addStream_95 : decode b_Mo_addStream 95 = .ok (.iload_n 1, 1) := by decide +kernel
theorem d_Mo_addStream_96 : decode b_Mo_addStream 96 = .ok (.iaload, 1) := by decide +kernel
theorem d_Mo_addStream_97 : decode b_Mo_addStream 97 = .ok (.iadd, 1) := by decide +kernel
theorem d_Mo_addStream_98 : decode b_Mo_addStream 98 = .ok (.iload_n 3, 1) := by decide +kernel
theorem d_Mo_addStream_99 : decode b_Mo_addStream 99 = .ok (.iastore, 1) := by decide +kernel
theorem d_Mo_addStream_100 : decode b_Mo_addStream 100 = .ok (.aload_n 0, 1) := by decide +kernel
theorem d_Mo_addStream_101 : decode b_Mo_addStream 101 = .ok (.getfield 139, 3) := by decide +kernel
theorem d_Mo_addStream_104 : decode b_Mo_addStream 104 = .ok (.iload_n 1, 1) := by decide +kernel
theorem d_Mo_addStream_105 : decode b_Mo_addStream 105 = .ok (.dup2, 1) := by decide +kernel
theorem d_Mo_addStream_106 : decode b_Mo_addStream 106 = .ok (.iaload, 1) := by decide +kernel
theorem d_Mo_addStream_107 : decode b_Mo_addStream 107 = .ok (.iconst 1, 1) := by decide +kernel
theorem d_Mo_addStream_108 : decode b_Mo_addStream 108 = .ok (.iadd, 1) := by decide +kernel
theorem d_Mo_addStream_109 : decode b_Mo_addStream 109 = .ok (.iastore, 1) := by decide +kernel
theorem d_Mo_addStream_110 : decode b_Mo_addStream 110 = .ok (.aload_n 0, 1) := by decide +kernel
theorem d_Mo_addStream_111 : decode b_Mo_addStream 111 = .ok (.getfield 139, 3) := by decide +kernel
theorem d_Mo_addStream_114 : decode b_Mo_addStream 114 = .ok (.iload_n 1, 1) := by decide +kernel
theorem d_Mo_addStream_115 : decode b_Mo_addStream 115 = .ok (.iaload, 1) := by decide +kernel
theorem d_Mo_addStream_116 : decode b_Mo_addStream 116 = .ok (.ireturn, 1) := by decide +kernel
theorem d_Mo_clock_0 : decode b_Mo_clock 0 = .ok (.aload_n 0, 1) := by decide +kernel
theorem d_Mo_clock_1 : decode b_Mo_clock 1 = .ok (.iload_n 1, 1) := by decide +kernel
theorem d_Mo_clock_2 : decode b_Mo_clock 2 = .ok (.ifCond .lt 10, 3) := by decide +kernel
theorem d_Mo_clock_5 : decode b_Mo_clock 5 = .ok (.iload_n 1, 1) := by decide +kernel
theorem d_Mo_clock_6 : decode b_Mo_clock 6 = .ok (.sipush 8191, 3) := by decide +kernel
theorem d_Mo_clock_9 : decode b_Mo_clock 9 = .ok (.if_icmp .le 7, 3) := by decide +kernel
theorem d_Mo_clock_12 : decode b_Mo_clock 12 = .ok (.iconst 1, 1) := by decide +kernel
theorem d_Mo_clock_13 : decode b_Mo_clock 13 = .ok (.goto 4, 3) := by decide +kernel
theorem d_Mo_clock_16 : decode b_Mo_clock 16 = .ok (.iconst 0, 1) := by decide +kernel
theorem d_Mo_clock_17 : decode b_Mo_clock 17 = .ok (.putfield 156, 3) := by decide +kernel
theorem d_Mo_clock_20 : decode b_Mo_clock 20 = .ok (.aload_n 0, 1) := by decide +kernel
theorem d_Mo_clock_21 : decode b_Mo_clock 21 = .ok (.getfield 156, 3) := by decide +kernel
theorem d_Mo_clock_24 : decode b_Mo_clock 24 = .ok (.ifCond .le 7, 3) := by decide +kernel
theorem d_Mo_clock_27 : decode b_Mo_clock 27 = .ok (.lconst 0, 1) := by decide +kernel
theorem d_Mo_clock_28 : decode b_Mo_clock 28 = .ok (.goto 9, 3) := by decide +kernel
theorem d_Mo_clock_31 : decode b_Mo_clock 31 = .ok (.aload_n 0, 1) := by decide +kernel
theorem d_Mo_clock_32 : decode b_Mo_clock 32 = .ok (.getfield 23, 3) := by decide +kernel
theorem d_Mo_clock_35 : decode b_Mo_clock 35 = .ok (.iload_n 1, 1) := by decide +kernel
theorem d_Mo_clock_36 : decode b_Mo_clock 36 = .ok (.laload, 1) := by decide +kernel
theorem d_Mo_clock_37 : decode b_Mo_clock 37 = .ok (.lreturn, 1) := by decide +kernel
theorem d_Mo_forget_0 : decode b_Mo_forget 0 = .ok (.aload_n 0, 1) := by decide +kernel
theorem d_Mo_forget_1 : decode b_Mo_forget 1 = .ok (.iconst 0, 1) := by decide +kernel
theorem d_Mo_forget_2 : decode b_Mo_forget 2 = .ok (.putfield 156, 3) := by decide +kernel
theorem d_Mo_forget_5 : decode b_Mo_forget 5 = .ok (.aload_n 0, 1) := by decide +kernel
theorem d_Mo_forget_6 : decode b_Mo_forget 6 = .ok (.iconst 0, 1) := by decide +kernel
theorem d_Mo_forget_7 : decode b_Mo_forget 7 = .ok (.putfield 277, 3) := by decide +kernel
theorem d_Mo_forget_10 : decode b_Mo_forget 10 = .ok (.return_, 1) := by decide +kernel
theorem d_Mo_noProgramme_0 : decode b_Mo_noProgramme 0 = .ok (.iload_n 1, 1) := by decide +kernel
theorem d_Mo_noProgramme_1 : decode b_Mo_noProgramme 1 = .ok (.ifCond .lt 11, 3) := by decide +kernel
theorem d_Mo_noProgramme_4 : decode b_Mo_noProgramme 4 = .ok (.iload_n 1, 1) := by decide +kernel
theorem d_Mo_noProgramme_5 : decode b_Mo_noProgramme 5 = .ok (.aload_n 0, 1) := by decide +kernel
theorem d_Mo_noProgramme_6 : decode b_Mo_noProgramme 6 = .ok (.getfield 181, 3) := by decide +kernel
theorem d_Mo_noProgramme_9 : decode b_Mo_noProgramme 9 = .ok (.if_icmp .lt 7, 3) := by decide +kernel
theorem d_Mo_noProgramme_12 : decode b_Mo_noProgramme 12 = .ok (.iconst 1, 1) := by decide +kernel
theorem d_Mo_noProgramme_13 : decode b_Mo_noProgramme 13 = .ok (.goto 4, 3) := by decide +kernel
theorem d_Mo_noProgramme_16 : decode b_Mo_noProgramme 16 = .ok (.iconst 0, 1) := by decide +kernel
theorem d_Mo_noProgramme_17 : decode b_Mo_noProgramme 17 = .ok (.ireturn, 1) := by decide +kernel
theorem d_Mo_now_0 : decode b_Mo_now 0 = .ok (.aload_n 0, 1) := by decide +kernel
theorem d_Mo_now_1 : decode b_Mo_now 1 = .ok (.aload_n 0, 1) := by decide +kernel
theorem d_Mo_now_2 : decode b_Mo_now 2 = .ok (.iload_n 1, 1) := by decide +kernel
theorem d_Mo_now_3 : decode b_Mo_now 3 = .ok (.invokevirtual 270, 3) := by decide +kernel
theorem d_Mo_now_6 : decode b_Mo_now 6 = .ok (.ifCond .eq 7, 3) := by decide +kernel
theorem d_Mo_now_9 : decode b_Mo_now 9 = .ok (.iconst 1, 1) := by decide +kernel
theorem d_Mo_now_10 : decode b_Mo_now 10 = .ok (.goto 4, 3) := by decide +kernel
theorem d_Mo_now_13 : decode b_Mo_now 13 = .ok (.iconst 0, 1) := by decide +kernel
theorem d_Mo_now_14 : decode b_Mo_now 14 = .ok (.putfield 156, 3) := by decide +kernel
theorem d_Mo_now_17 : decode b_Mo_now 17 = .ok (.aload_n 0, 1) := by decide +kernel
theorem d_Mo_now_18 : decode b_Mo_now 18 = .ok (.getfield 156, 3) := by decide +kernel
theorem d_Mo_now_21 : decode b_Mo_now 21 = .ok (.ifCond .le 7, 3) := by decide +kernel
theorem d_Mo_now_24 : decode b_Mo_now 24 = .ok (.lconst 0, 1) := by decide +kernel
theorem d_Mo_now_25 : decode b_Mo_now 25 = .ok (.goto 9, 3) := by decide +kernel
theorem d_Mo_now_28 : decode b_Mo_now 28 = .ok (.aload_n 0, 1) := by decide +kernel
theorem d_Mo_now_29 : decode b_Mo_now 29 = .ok (.getfield 79, 3) := by decide +kernel
theorem d_Mo_now_32 : decode b_Mo_now 32 = .ok (.iload_n 1, 1) := by decide +kernel
theorem d_Mo_now_33 : decode b_Mo_now 33 = .ok (.laload, 1) := by decide +kernel
theorem d_Mo_now_34 : decode b_Mo_now 34 = .ok (.lreturn, 1) := by decide +kernel
theorem d_Mo_order_0 : decode b_Mo_order 0 = .ok (.aload_n 0, 1) := by decide +kernel
theorem d_Mo_order_1 : decode b_Mo_order 1 = .ok (.iload_n 3, 1) := by decide +kernel
theorem d_Mo_order_2 : decode b_Mo_order 2 = .ok (.ifCond .lt 8, 3) := by decide +kernel
theorem d_Mo_order_5 : decode b_Mo_order 5 = .ok (.iload_n 3, 1) := by decide +kernel
theorem d_Mo_order_6 : decode b_Mo_order 6 = .ok (.iconst 3, 1) := by decide +kernel
theorem d_Mo_order_7 : decode b_Mo_order 7 = .ok (.if_icmp .le 7, 3) := by decide +kernel
theorem d_Mo_order_10 : decode b_Mo_order 10 = .ok (.iconst 1, 1) := by decide +kernel
theorem d_Mo_order_11 : decode b_Mo_order 11 = .ok (.goto 16, 3) := by decide +kernel
theorem d_Mo_order_14 : decode b_Mo_order 14 = .ok (.aload_n 0, 1) := by decide +kernel
theorem d_Mo_order_15 : decode b_Mo_order 15 = .ok (.iload_n 1, 1) := by decide +kernel
theorem d_Mo_order_16 : decode b_Mo_order 16 = .ok (.invokevirtual 270, 3) := by decide +kernel
theorem d_Mo_order_19 : decode b_Mo_order 19 = .ok (.ifCond .eq 7, 3) := by decide +kernel
theorem d_Mo_order_22 : decode b_Mo_order 22 = .ok (.iconst 2, 1) := by decide +kernel
theorem d_Mo_order_23 : decode b_Mo_order 23 = .ok (.goto 4, 3) := by decide +kernel
theorem d_Mo_order_26 : decode b_Mo_order 26 = .ok (.iconst 0, 1) := by decide +kernel
theorem d_Mo_order_27 : decode b_Mo_order 27 = .ok (.putfield 156, 3) := by decide +kernel
theorem d_Mo_order_30 : decode b_Mo_order 30 = .ok (.aload_n 0, 1) := by decide +kernel
theorem d_Mo_order_31 : decode b_Mo_order 31 = .ok (.getfield 156, 3) := by decide +kernel
theorem d_Mo_order_34 : decode b_Mo_order 34 = .ok (.ifCond .le 5, 3) := by decide +kernel
theorem d_Mo_order_37 : decode b_Mo_order 37 = .ok (.lconst 0, 1) := by decide +kernel
theorem d_Mo_order_38 : decode b_Mo_order 38 = .ok (.lreturn, 1) := by decide +kernel
theorem d_Mo_order_39 : decode b_Mo_order 39 = .ok (.iload_n 2, 1) := by decide +kernel
theorem d_Mo_order_40 : decode b_Mo_order 40 = .ok (.ifCond .lt 13, 3) := by decide +kernel
theorem d_Mo_order_43 : decode b_Mo_order 43 = .ok (.iload_n 2, 1) := by decide +kernel
theorem d_Mo_order_44 : decode b_Mo_order 44 = .ok (.aload_n 0, 1) := by decide +kernel
theorem d_Mo_order_45 : decode b_Mo_order 45 = .ok (.getfield 82, 3) := by decide +kernel
theorem d_Mo_order_48 : decode b_Mo_order 48 = .ok (.iload_n 1, 1) := by decide +kernel
theorem d_Mo_order_49 : decode b_Mo_order 49 = .ok (.iaload, 1) := by decide +kernel
theorem d_Mo_order_50 : decode b_Mo_order 50 = .ok (.if_icmp .lt 7, 3) := by decide +kernel
theorem d_Mo_order_53 : decode b_Mo_order 53 = .ok (.ldc2_w 154, 3) := by decide +kernel
theorem d_Mo_order_56 : decode b_Mo_order 56 = .ok (.lreturn, 1) := by decide +kernel
theorem d_Mo_order_57 : decode b_Mo_order 57 = .ok (.bipush 6, 2) := by decide +kernel
theorem d_Mo_order_59 : decode b_Mo_order 59 = .ok (.iload_n 1, 1) := by decide +kernel
theorem d_Mo_order_60 : decode b_Mo_order 60 = .ok (.imul, 1) := by decide +kernel
theorem d_Mo_order_61 : decode b_Mo_order 61 = .ok (.iload_n 2, 1) := by decide +kernel
theorem d_Mo_order_62 : decode b_Mo_order 62 = .ok (.iadd, 1) := by decide +kernel
theorem d_Mo_order_63 : decode b_Mo_order 63 = .ok (.istore 4, 2) := by decide +kernel
theorem d_Mo_order_65 : decode b_Mo_order 65 = .ok (.iload_n 3, 1) := by decide +kernel
theorem d_Mo_order_66 : decode b_Mo_order 66 = .ok (.ifCond .ne 13, 3) := by decide +kernel
theorem d_Mo_order_69 : decode b_Mo_order 69 = .ok (.aload_n 0, 1) := by decide +kernel
theorem d_Mo_order_70 : decode b_Mo_order 70 = .ok (.getfield 91, 3) := by decide +kernel
theorem d_Mo_order_73 : decode b_Mo_order 73 = .ok (.iload 4, 2) := by decide +kernel
theorem d_Mo_order_75 : decode b_Mo_order 75 = .ok (.laload, 1) := by decide +kernel
theorem d_Mo_order_76 : decode b_Mo_order 76 = .ok (.goto 53, 3) := by decide +kernel
theorem d_Mo_order_79 : decode b_Mo_order 79 = .ok (.iload_n 3, 1) := by decide +kernel
theorem d_Mo_order_80 : decode b_Mo_order 80 = .ok (.iconst 1, 1) := by decide +kernel
theorem d_Mo_order_81 : decode b_Mo_order 81 = .ok (.if_icmp .ne 18, 3) := by decide +kernel
theorem d_Mo_order_84 : decode b_Mo_order 84 = .ok (.aload_n 0, 1) := by decide +kernel
theorem d_Mo_order_85 : decode b_Mo_order 85 = .ok (.getfield 94, 3) := by decide +kernel
theorem d_Mo_order_88 : decode b_Mo_order 88 = .ok (.iload 4, 2) := by decide +kernel
theorem d_Mo_order_90 : decode b_Mo_order 90 = .ok (.iaload, 1) := by decide +kernel
theorem d_Mo_order_91 : decode b_Mo_order 91 = .ok (.i2l, 1) := by decide +kernel
theorem d_Mo_order_92 : decode b_Mo_order 92 = .ok (.ldc2_w 274, 3) := by decide +kernel
theorem d_Mo_order_95 : decode b_Mo_order 95 = .ok (.land, 1) := by decide +kernel
theorem d_Mo_order_96 : decode b_Mo_order 96 = .ok (.goto 33, 3) := by decide +kernel
theorem d_Mo_order_99 : decode b_Mo_order 99 = .ok (.iload_n 3, 1) := by decide +kernel
theorem d_Mo_order_100 : decode b_Mo_order 100 = .ok (.iconst 2, 1) := by decide +kernel
theorem d_Mo_order_101 : decode b_Mo_order 101 = .ok (.if_icmp .ne 21, 3) := by decide +kernel
theorem d_Mo_order_104 : decode b_Mo_order 104 = .ok (.aload_n 0, 1) := by decide +kernel
theorem d_Mo_order_105 : decode b_Mo_order 105 = .ok (.getfield 97, 3) := by decide +kernel
theorem d_Mo_order_108 : decode b_Mo_order 108 = .ok (.iload 4, 2) := by decide +kernel
theorem d_Mo_order_110 : decode b_Mo_order 110 = .ok (.baload, 1) := by decide +kernel
theorem d_Mo_order_111 : decode b_Mo_order 111 = .ok (.ifCond .eq 7, 3) := by decide +kernel
theorem d_Mo_order_114 : decode b_Mo_order 114 = .ok (.lconst 1, 1) := by decide +kernel
theorem d_Mo_order_115 : decode b_Mo_order 115 = .ok (.goto 14, 3) := by decide +kernel
theorem d_Mo_order_118 : decode b_Mo_order 118 = .ok (.lconst 0, 1) := by decide +kernel
theorem d_Mo_order_119 : decode b_Mo_order 119 = .ok (.goto 10, 3) := by decide +kernel
theorem d_Mo_order_122 : decode b_Mo_order 122 = .ok (.aload_n 0, 1) := by decide +kernel
theorem d_Mo_order_123 : decode b_Mo_order 123 = .ok (.getfield 100, 3) := by decide +kernel
theorem d_Mo_order_126 : decode b_Mo_order 126 = .ok (.iload 4, 2) := by decide +kernel
theorem d_Mo_order_128 : decode b_Mo_order 128 = .ok (.laload, 1) := by decide +kernel
theorem d_Mo_order_129 : decode b_Mo_order 129 = .ok (.lreturn, 1) := by decide +kernel
theorem d_Mo_piece_0 : decode b_Mo_piece 0 = .ok (.aload_n 0, 1) := by decide +kernel
theorem d_Mo_piece_1 : decode b_Mo_piece 1 = .ok (.iload_n 2, 1) := by decide +kernel
theorem d_Mo_piece_2 : decode b_Mo_piece 2 = .ok (.ifCond .lt 12, 3) := by decide +kernel
theorem d_Mo_piece_5 : decode b_Mo_piece 5 = .ok (.iload_n 2, 1) := by decide +kernel
theorem d_Mo_piece_6 : decode b_Mo_piece 6 = .ok (.iconst 4, 1) := by decide +kernel
theorem d_Mo_piece_7 : decode b_Mo_piece 7 = .ok (.if_icmp .gt 7, 3) := by decide +kernel
theorem d_Mo_piece_10 : decode b_Mo_piece 10 = .ok (.iload_n 1, 1) := by decide +kernel
theorem d_Mo_piece_11 : decode b_Mo_piece 11 = .ok (.ifCond .ge 7, 3) := by decide +kernel
theorem d_Mo_piece_14 : decode b_Mo_piece 14 = .ok (.iconst 1, 1) := by decide +kernel
theorem d_Mo_piece_15 : decode b_Mo_piece 15 = .ok (.goto 4, 3) := by decide +kernel
theorem d_Mo_piece_18 : decode b_Mo_piece 18 = .ok (.iconst 0, 1) := by decide +kernel
theorem d_Mo_piece_19 : decode b_Mo_piece 19 = .ok (.putfield 156, 3) := by decide +kernel
theorem d_Mo_piece_22 : decode b_Mo_piece 22 = .ok (.aload_n 0, 1) := by decide +kernel
theorem d_Mo_piece_23 : decode b_Mo_piece 23 = .ok (.getfield 156, 3) := by decide +kernel
theorem d_Mo_piece_26 : decode b_Mo_piece 26 = .ok (.ifCond .le 5, 3) := by decide +kernel
theorem d_Mo_piece_29 : decode b_Mo_piece 29 = .ok (.lconst 0, 1) := by decide +kernel
theorem d_Mo_piece_30 : decode b_Mo_piece 30 = .ok (.lreturn, 1) := by decide +kernel
theorem d_Mo_piece_31 : decode b_Mo_piece 31 = .ok (.iload_n 1, 1) := by decide +kernel
theorem d_Mo_piece_32 : decode b_Mo_piece 32 = .ok (.bipush 15, 2) := by decide +kernel
theorem d_Mo_piece_34 : decode b_Mo_piece 34 = .ok (.if_icmp .gt 11, 3) := by decide +kernel
theorem d_Mo_piece_37 : decode b_Mo_piece 37 = .ok (.iload_n 1, 1) := by decide +kernel
theorem d_Mo_piece_38 : decode b_Mo_piece 38 = .ok (.aload_n 0, 1) := by decide +kernel
theorem d_Mo_piece_39 : decode b_Mo_piece 39 = .ok (.getfield 255, 3) := by decide +kernel
theorem d_Mo_piece_42 : decode b_Mo_piece 42 = .ok (.if_icmp .lt 9, 3) := by decide +kernel
theorem d_Mo_piece_45 : decode b_Mo_piece 45 = .ok (.ldc2_w 154, 3) := by decide +kernel
theorem d_Mo_piece_48 : decode b_Mo_piece 48 = .ok (.goto 23, 3) := by decide +kernel
theorem d_Mo_piece_51 : decode b_Mo_piece 51 = .ok (.aload_n 0, 1) := by decide +kernel
theorem d_Mo_piece_52 : decode b_Mo_piece 52 = .ok (.getfield 130, 3) := by decide +kernel
theorem d_Mo_piece_55 : decode b_Mo_piece 55 = .ok (.iconst 5, 1) := by decide +kernel
theorem d_Mo_piece_56 : decode b_Mo_piece 56 = .ok (.aload_n 0, 1) := by decide +kernel
theorem d_Mo_piece_57 : decode b_Mo_piece 57 = .ok (.getfield 255, 3) := by decide +kernel
theorem d_Mo_piece_60 : decode b_Mo_piece 60 = .ok (.iconst 1, 1) := by decide +kernel
theorem d_Mo_piece_61 : decode b_Mo_piece 61 = .ok (.isub, 1) := by decide +kernel
theorem d_Mo_piece_62 : decode b_Mo_piece 62 = .ok (.iload_n 1, 1) := by decide +kernel
theorem d_Mo_piece_63 : decode b_Mo_piece 63 = .ok (.isub, 1) := by decide +kernel
theorem d_Mo_piece_64 : decode b_Mo_piece 64 = .ok (.bipush 16, 2) := by decide +kernel
theorem d_Mo_piece_66 : decode b_Mo_piece 66 = .ok (.irem, 1) := by decide +kernel
theorem d_Mo_piece_67 : decode b_Mo_piece 67 = .ok (.imul, 1) := by decide +kernel
theorem d_Mo_piece_68 : decode b_Mo_piece 68 = .ok (.iload_n 2, 1) := by decide +kernel
theorem d_Mo_piece_69 : decode b_Mo_piece 69 = .ok (.iadd, 1) := by decide +kernel
theorem d_Mo_piece_70 : decode b_Mo_piece 70 = .ok (.laload, 1) := by decide +kernel
theorem d_Mo_piece_71 : decode b_Mo_piece 71 = .ok (.lreturn, 1) := by decide +kernel
theorem d_Mo_plan_0 : decode b_Mo_plan 0 = .ok (.aload_n 0, 1) := by decide +kernel
theorem d_Mo_plan_1 : decode b_Mo_plan 1 = .ok (.iload_n 1, 1) := by decide +kernel
theorem d_Mo_plan_2 : decode b_Mo_plan 2 = .ok (.iconst 1, 1) := by decide +kernel
theorem d_Mo_plan_3 : decode b_Mo_plan 3 = .ok (.if_icmp .lt 21, 3) := by decide +kernel
theorem d_Mo_plan_6 : decode b_Mo_plan 6 = .ok (.iload_n 1, 1) := by decide +kernel
theorem d_Mo_plan_7 : decode b_Mo_plan 7 = .ok (.ldc_w 276, 3) := by decide +kernel
theorem d_Mo_plan_10 : decode b_Mo_plan 10 = .ok (.if_icmp .gt 14, 3) := by decide +kernel
theorem d_Mo_plan_13 : decode b_Mo_plan 13 = .ok (.iload_n 2, 1) := by decide +kernel
theorem d_Mo_plan_14 : decode b_Mo_plan 14 = .ok (.ifCond .lt 10, 3) := by decide +kernel
theorem d_Mo_plan_17 : decode b_Mo_plan 17 = .ok (.iload_n 2, 1) := by decide +kernel
theorem d_Mo_plan_18 : decode b_Mo_plan 18 = .ok (.sipush 8191, 3) := by decide +kernel
theorem d_Mo_plan_21 : decode b_Mo_plan 21 = .ok (.if_icmp .le 7, 3) := by decide +kernel
theorem d_Mo_plan_24 : decode b_Mo_plan 24 = .ok (.iconst 1, 1) := by decide +kernel
theorem d_Mo_plan_25 : decode b_Mo_plan 25 = .ok (.goto 4, 3) := by decide +kernel
theorem d_Mo_plan_28 : decode b_Mo_plan 28 = .ok (.iconst 0, 1) := by decide +kernel
theorem d_Mo_plan_29 : decode b_Mo_plan 29 = .ok (.putfield 156, 3) := by decide +kernel
theorem d_Mo_plan_32 : decode b_Mo_plan 32 = .ok (.aload_n 0, 1) := by decide +kernel
theorem d_Mo_plan_33 : decode b_Mo_plan 33 = .ok (.getfield 156, 3) := by decide +kernel
theorem d_Mo_plan_36 : decode b_Mo_plan 36 = .ok (.ifCond .le 5, 3) := by decide +kernel
theorem d_Mo_plan_39 : decode b_Mo_plan 39 = .ok (.iconst 0, 1) := by decide +kernel
theorem d_Mo_plan_40 : decode b_Mo_plan 40 = .ok (.ireturn, 1) := by decide +kernel
theorem d_Mo_plan_41 : decode b_Mo_plan 41 = .ok (.aload_n 0, 1) := by decide +kernel
theorem d_Mo_plan_42 : decode b_Mo_plan 42 = .ok (.getfield 277, 3) := by decide +kernel
theorem d_Mo_plan_45 : decode b_Mo_plan 45 = .ok (.iconst 4, 1) := by decide +kernel
theorem d_Mo_plan_46 : decode b_Mo_plan 46 = .ok (.if_icmp .ne 5, 3) := by decide +kernel
theorem d_Mo_plan_49 : decode b_Mo_plan 49 = .ok (.iconst (-1), 1) := by decide +kernel
theorem d_Mo_plan_50 : decode b_Mo_plan 50 = .ok (.ireturn, 1) := by decide +kernel
theorem d_Mo_plan_51 : decode b_Mo_plan 51 = .ok (.aload_n 0, 1) := by decide +kernel
theorem d_Mo_plan_52 : decode b_Mo_plan 52 = .ok (.getfield 133, 3) := by decide +kernel
theorem d_Mo_plan_55 : decode b_Mo_plan 55 = .ok (.aload_n 0, 1) := by decide +kernel
theorem d_Mo_plan_56 : decode b_Mo_plan 56 = .ok (.getfield 277, 3) := by decide +kernel
theorem d_Mo_plan_59 : decode b_Mo_plan 59 = .ok (.iload_n 1, 1) := by decide +kernel
theorem d_Mo_plan_60 : decode b_Mo_plan 60 = .ok (.iastore, 1) := by decide +kernel
theorem d_Mo_plan_61 : decode b_Mo_plan 61 = .ok (.aload_n 0, 1) := by decide +kernel
theorem d_Mo_plan_62 : decode b_Mo_plan 62 = .ok (.getfield 136, 3) := by decide +kernel
theorem d_Mo_plan_65 : decode b_Mo_plan 65 = .ok (.aload_n 0, 1) := by decide +kernel
theorem d_Mo_plan_66 : decode b_Mo_plan 66 = .ok (.getfield 277, 3) := by decide +kernel
theorem d_Mo_plan_69 : decode b_Mo_plan 69 = .ok (.iload_n 2, 1) := by decide +kernel
theorem d_Mo_plan_70 : decode b_Mo_plan 70 = .ok (.iastore, 1) := by decide +kernel
theorem d_Mo_plan_71 : decode b_Mo_plan 71 = .ok (.aload_n 0, 1) := by decide +kernel
theorem d_Mo_plan_72 : decode b_Mo_plan 72 = .ok (.getfield 139, 3) := by decide +kernel
theorem d_Mo_plan_75 : decode b_Mo_plan 75 = .ok (.aload_n 0, 1) := by decide +kernel
theorem d_Mo_plan_76 : decode b_Mo_plan 76 = .ok (.getfield 277, 3) := by decide +kernel
theorem d_Mo_plan_79 : decode b_Mo_plan 79 = .ok (.iconst 0, 1) := by decide +kernel
theorem d_Mo_plan_80 : decode b_Mo_plan 80 = .ok (.iastore, 1) := by decide +kernel
theorem d_Mo_plan_81 : decode b_Mo_plan 81 = .ok (.aload_n 0, 1) := by decide +kernel
theorem d_Mo_plan_82 : decode b_Mo_plan 82 = .ok (.dup, 1) := by decide +kernel
theorem d_Mo_plan_83 : decode b_Mo_plan 83 = .ok (.getfield 277, 3) := by decide +kernel
theorem d_Mo_plan_86 : decode b_Mo_plan 86 = .ok (.iconst 1, 1) := by decide +kernel
theorem d_Mo_plan_87 : decode b_Mo_plan 87 = .ok (.iadd, 1) := by decide +kernel
theorem d_Mo_plan_88 : decode b_Mo_plan 88 = .ok (.putfield 277, 3) := by decide +kernel
theorem d_Mo_plan_91 : decode b_Mo_plan 91 = .ok (.aload_n 0, 1) := by decide +kernel
theorem d_Mo_plan_92 : decode b_Mo_plan 92 = .ok (.getfield 277, 3) := by decide +kernel
theorem d_Mo_plan_95 : decode b_Mo_plan 95 = .ok (.ireturn, 1) := by decide +kernel
theorem d_Mo_programme_0 : decode b_Mo_programme 0 = .ok (.aload_n 0, 1) := by decide +kernel
theorem d_Mo_programme_1 : decode b_Mo_programme 1 = .ok (.iload_n 2, 1) := by decide +kernel
theorem d_Mo_programme_2 : decode b_Mo_programme 2 = .ok (.ifCond .lt 9, 3) := by decide +kernel
theorem d_Mo_programme_5 : decode b_Mo_programme 5 = .ok (.iload_n 2, 1) := by decide +kernel
theorem d_Mo_programme_6 : decode b_Mo_programme 6 = .ok (.bipush 6, 2) := by decide +kernel
theorem d_Mo_programme_8 : decode b_Mo_programme 8 = .ok (.if_icmp .le 7, 3) := by decide +kernel
theorem d_Mo_programme_11 : decode b_Mo_programme 11 = .ok (.iconst 1, 1) := by decide +kernel
theorem d_Mo_programme_12 : decode b_Mo_programme 12 = .ok (.goto 16, 3) := by decide +kernel
theorem d_Mo_programme_15 : decode b_Mo_programme 15 = .ok (.aload_n 0, 1) := by decide +kernel
theorem d_Mo_programme_16 : decode b_Mo_programme 16 = .ok (.iload_n 1, 1) := by decide +kernel
theorem d_Mo_programme_17 : decode b_Mo_programme 17 = .ok (.invokevirtual 270, 3) := by decide +kernel
theorem d_Mo_programme_20 : decode b_Mo_programme 20 = .ok (.ifCond .eq 7, 3) := by decide +kernel
theorem d_Mo_programme_23 : decode b_Mo_programme 23 = .ok (.iconst 2, 1) := by decide +kernel
theorem d_Mo_programme_24 : decode b_Mo_programme 24 = .ok (.goto 4, 3) := by decide +kernel
theorem d_Mo_programme_27 : decode b_Mo_programme 27 = .ok (.iconst 0, 1) := by decide +kernel
theorem d_Mo_programme_28 : decode b_Mo_programme 28 = .ok (.putfield 156, 3) := by decide +kernel
theorem d_Mo_programme_31 : decode b_Mo_programme 31 = .ok (.aload_n 0, 1) := by decide +kernel
theorem d_Mo_programme_32 : decode b_Mo_programme 32 = .ok (.getfield 156, 3) := by decide +kernel
theorem d_Mo_programme_35 : decode b_Mo_programme 35 = .ok (.ifCond .le 5, 3) := by decide +kernel
theorem d_Mo_programme_38 : decode b_Mo_programme 38 = .ok (.iconst 0, 1) := by decide +kernel
theorem d_Mo_programme_39 : decode b_Mo_programme 39 = .ok (.ireturn, 1) := by decide +kernel
theorem d_Mo_programme_40 : decode b_Mo_programme 40 = .ok (.iload_n 2, 1) := by decide +kernel
theorem d_Mo_programme_41 : decode b_Mo_programme 41 = .ok (.tableswitch 103 0 5 #[39, 46, 53, 60, 81, 88], 39) := by decide +kernel
theorem d_Mo_programme_80 : decode b_Mo_programme 80 = .ok (.aload_n 0, 1) := by decide +kernel
theorem d_Mo_programme_81 : decode b_Mo_programme 81 = .ok (.getfield 61, 3) := by decide +kernel
theorem d_Mo_programme_84 : decode b_Mo_programme 84 = .ok (.iload_n 1, 1) := by decide +kernel
theorem d_Mo_programme_85 : decode b_Mo_programme 85 = .ok (.iaload, 1) := by decide +kernel
theorem d_Mo_programme_86 : decode b_Mo_programme 86 = .ok (.ireturn, 1) := by decide +kernel
theorem d_Mo_programme_87 : decode b_Mo_programme 87 = .ok (.aload_n 0, 1) := by decide +kernel
theorem d_Mo_programme_88 : decode b_Mo_programme 88 = .ok (.getfield 64, 3) := by decide +kernel
theorem d_Mo_programme_91 : decode b_Mo_programme 91 = .ok (.iload_n 1, 1) := by decide +kernel
theorem d_Mo_programme_92 : decode b_Mo_programme 92 = .ok (.iaload, 1) := by decide +kernel
theorem d_Mo_programme_93 : decode b_Mo_programme 93 = .ok (.ireturn, 1) := by decide +kernel
theorem d_Mo_programme_94 : decode b_Mo_programme 94 = .ok (.aload_n 0, 1) := by decide +kernel
theorem d_Mo_programme_95 : decode b_Mo_programme 95 = .ok (.getfield 67, 3) := by decide +kernel
theorem d_Mo_programme_98 : decode b_Mo_programme 98 = .ok (.iload_n 1, 1) := by decide +kernel
theorem d_Mo_programme_99 : decode b_Mo_programme 99 = .ok (.iaload, 1) := by decide +kernel
theorem d_Mo_programme_100 : decode b_Mo_programme 100 = .ok (.ireturn, 1) := by decide +kernel
theorem d_Mo_programme_101 : decode b_Mo_programme 101 = .ok (.aload_n 0, 1) := by decide +kernel
theorem d_Mo_programme_102 : decode b_Mo_programme 102 = .ok (.getfield 67, 3) := by decide +kernel
theorem d_Mo_programme_105 : decode b_Mo_programme 105 = .ok (.iload_n 1, 1) := by decide +kernel
theorem d_Mo_programme_106 : decode b_Mo_programme 106 = .ok (.iaload, 1) := by decide +kernel
theorem d_Mo_programme_107 : decode b_Mo_programme 107 = .ok (.iconst (-1), 1) := by decide +kernel
theorem d_Mo_programme_108 : decode b_Mo_programme 108 = .ok (.if_icmp .ne 7, 3) := by decide +kernel
theorem d_Mo_programme_111 : decode b_Mo_programme 111 = .ok (.iconst (-1), 1) := by decide +kernel
theorem d_Mo_programme_112 : decode b_Mo_programme 112 = .ok (.goto 9, 3) := by decide +kernel
theorem d_Mo_programme_115 : decode b_Mo_programme 115 = .ok (.aload_n 0, 1) := by decide +kernel
theorem d_Mo_programme_116 : decode b_Mo_programme 116 = .ok (.getfield 70, 3) := by decide +kernel
theorem d_Mo_programme_119 : decode b_Mo_programme 119 = .ok (.iload_n 1, 1) := by decide +kernel
theorem d_Mo_programme_120 : decode b_Mo_programme 120 = .ok (.iaload, 1) := by decide +kernel
theorem d_Mo_programme_121 : decode b_Mo_programme 121 = .ok (.ireturn, 1) := by decide +kernel
theorem d_Mo_programme_122 : decode b_Mo_programme 122 = .ok (.aload_n 0, 1) := by decide +kernel
theorem d_Mo_programme_123 : decode b_Mo_programme 123 = .ok (.getfield 73, 3) := by decide +kernel
theorem d_Mo_programme_126 : decode b_Mo_programme 126 = .ok (.iload_n 1, 1) := by decide +kernel
theorem d_Mo_programme_127 : decode b_Mo_programme 127 = .ok (.iaload, 1) := by decide +kernel
theorem d_Mo_programme_128 : decode b_Mo_programme 128 = .ok (.ireturn, 1) := by decide +kernel
theorem d_Mo_programme_129 : decode b_Mo_programme 129 = .ok (.aload_n 0, 1) := by decide +kernel
theorem d_Mo_programme_130 : decode b_Mo_programme 130 = .ok (.getfield 76, 3) := by decide +kernel
theorem d_Mo_programme_133 : decode b_Mo_programme 133 = .ok (.iload_n 1, 1) := by decide +kernel
theorem d_Mo_programme_134 : decode b_Mo_programme 134 = .ok (.baload, 1) := by decide +kernel
theorem d_Mo_programme_135 : decode b_Mo_programme 135 = .ok (.ifCond .eq 7, 3) := by decide +kernel
theorem d_Mo_programme_138 : decode b_Mo_programme 138 = .ok (.iconst 1, 1) := by decide +kernel
theorem d_Mo_programme_139 : decode b_Mo_programme 139 = .ok (.goto 4, 3) := by decide +kernel
theorem d_Mo_programme_142 : decode b_Mo_programme 142 = .ok (.iconst 0, 1) := by decide +kernel
theorem d_Mo_programme_143 : decode b_Mo_programme 143 = .ok (.ireturn, 1) := by decide +kernel
theorem d_Mo_programme_144 : decode b_Mo_programme 144 = .ok (.aload_n 0, 1) := by decide +kernel
theorem d_Mo_programme_145 : decode b_Mo_programme 145 = .ok (.getfield 82, 3) := by decide +kernel
theorem d_Mo_programme_148 : decode b_Mo_programme 148 = .ok (.iload_n 1, 1) := by decide +kernel
theorem d_Mo_programme_149 : decode b_Mo_programme 149 = .ok (.iaload, 1) := by decide +kernel
theorem d_Mo_programme_150 : decode b_Mo_programme 150 = .ok (.ireturn, 1) := by decide +kernel
theorem d_Mo_stream_0 : decode b_Mo_stream 0 = .ok (.aload_n 0, 1) := by decide +kernel
theorem d_Mo_stream_1 : decode b_Mo_stream 1 = .ok (.aload_n 0, 1) := by decide +kernel
theorem d_Mo_stream_2 : decode b_Mo_stream 2 = .ok (.iload_n 1, 1) := by decide +kernel
theorem d_Mo_stream_3 : decode b_Mo_stream 3 = .ok (.invokevirtual 270, 3) := by decide +kernel
theorem d_Mo_stream_6 : decode b_Mo_stream 6 = .ok (.ifCond .eq 7, 3) := by decide +kernel
theorem d_Mo_stream_9 : decode b_Mo_stream 9 = .ok (.iconst 1, 1) := by decide +kernel
theorem d_Mo_stream_10 : decode b_Mo_stream 10 = .ok (.goto 4, 3) := by decide +kernel
theorem d_Mo_stream_13 : decode b_Mo_stream 13 = .ok (.iconst 0, 1) := by decide +kernel
theorem d_Mo_stream_14 : decode b_Mo_stream 14 = .ok (.putfield 156, 3) := by decide +kernel
theorem d_Mo_stream_17 : decode b_Mo_stream 17 = .ok (.aload_n 0, 1) := by decide +kernel
theorem d_Mo_stream_18 : decode b_Mo_stream 18 = .ok (.getfield 156, 3) := by decide +kernel
theorem d_Mo_stream_21 : decode b_Mo_stream 21 = .ok (.ifCond .le 7, 3) := by decide +kernel
theorem d_Mo_stream_24 : decode b_Mo_stream 24 = .ok (.iconst 0, 1) := by decide +kernel
theorem d_Mo_stream_25 : decode b_Mo_stream 25 = .ok (.goto 46, 3) := by decide +kernel
theorem d_Mo_stream_28 : decode b_Mo_stream 28 = .ok (.iload_n 2, 1) := by decide +kernel
theorem d_Mo_stream_29 : decode b_Mo_stream 29 = .ok (.ifCond .lt 13, 3) := by decide +kernel
theorem d_Mo_stream_32 : decode b_Mo_stream 32 = .ok (.iload_n 2, 1) := by decide +kernel
theorem d_Mo_stream_33 : decode b_Mo_stream 33 = .ok (.aload_n 0, 1) := by decide +kernel
theorem d_Mo_stream_34 : decode b_Mo_stream 34 = .ok (.getfield 73, 3) := by decide +kernel
theorem d_Mo_stream_37 : decode b_Mo_stream 37 = .ok (.iload_n 1, 1) := by decide +kernel
theorem d_Mo_stream_38 : decode b_Mo_stream 38 = .ok (.iaload, 1) := by decide +kernel
theorem d_Mo_stream_39 : decode b_Mo_stream 39 = .ok (.if_icmp .lt 7, 3) := by decide +kernel
theorem d_Mo_stream_42 : decode b_Mo_stream 42 = .ok (.iconst (-1), 1) := by decide +kernel
theorem d_Mo_stream_43 : decode b_Mo_stream 43 = .ok (.goto 28, 3) := by decide +kernel
theorem d_Mo_stream_46 : decode b_Mo_stream 46 = .ok (.aload_n 0, 1) := by decide +kernel
theorem d_Mo_stream_47 : decode b_Mo_stream 47 = .ok (.getfield 85, 3) := by decide +kernel
theorem d_Mo_stream_50 : decode b_Mo_stream 50 = .ok (.iconst 4, 1) := by decide +kernel
theorem d_Mo_stream_51 : decode b_Mo_stream 51 = .ok (.iload_n 1, 1) := by decide +kernel
theorem d_Mo_stream_52 : decode b_Mo_stream 52 = .ok (.imul, 1) := by decide +kernel
theorem d_Mo_stream_53 : decode b_Mo_stream 53 = .ok (.iload_n 2, 1) := by decide +kernel
theorem d_Mo_stream_54 : decode b_Mo_stream 54 = .ok (.iadd, 1) := by decide +kernel
theorem d_Mo_stream_55 : decode b_Mo_stream 55 = .ok (.iaload, 1) := by decide +kernel
theorem d_Mo_stream_56 : decode b_Mo_stream 56 = .ok (.ldc_w 273, 3) := by decide +kernel
theorem d_Mo_stream_59 : decode b_Mo_stream 59 = .ok (.imul, 1) := by decide +kernel
theorem d_Mo_stream_60 : decode b_Mo_stream 60 = .ok (.aload_n 0, 1) := by decide +kernel
theorem d_Mo_stream_61 : decode b_Mo_stream 61 = .ok (.getfield 88, 3) := by decide +kernel
theorem d_Mo_stream_64 : decode b_Mo_stream 64 = .ok (.iconst 4, 1) := by decide +kernel
theorem d_Mo_stream_65 : decode b_Mo_stream 65 = .ok (.iload_n 1, 1) := by decide +kernel
theorem d_Mo_stream_66 : decode b_Mo_stream 66 = .ok (.imul, 1) := by decide +kernel
theorem d_Mo_stream_67 : decode b_Mo_stream 67 = .ok (.iload_n 2, 1) := by decide +kernel
theorem d_Mo_stream_68 : decode b_Mo_stream 68 = .ok (.iadd, 1) := by decide +kernel
theorem d_Mo_stream_69 : decode b_Mo_stream 69 = .ok (.iaload, 1) := by decide +kernel
theorem d_Mo_stream_70 : decode b_Mo_stream 70 = .ok (.iadd, 1) := by decide +kernel
theorem d_Mo_stream_71 : decode b_Mo_stream 71 = .ok (.ireturn, 1) := by decide +kernel
theorem d_Mo_told_0 : decode b_Mo_told 0 = .ok (.aload_n 0, 1) := by decide +kernel
theorem d_Mo_told_1 : decode b_Mo_told 1 = .ok (.iload_n 1, 1) := by decide +kernel
theorem d_Mo_told_2 : decode b_Mo_told 2 = .ok (.ifCond .lt 9, 3) := by decide +kernel
theorem d_Mo_told_5 : decode b_Mo_told 5 = .ok (.iload_n 1, 1) := by decide +kernel
theorem d_Mo_told_6 : decode b_Mo_told 6 = .ok (.bipush 11, 2) := by decide +kernel
theorem d_Mo_told_8 : decode b_Mo_told 8 = .ok (.if_icmp .le 7, 3) := by decide +kernel
theorem d_Mo_told_11 : decode b_Mo_told 11 = .ok (.iconst 1, 1) := by decide +kernel
theorem d_Mo_told_12 : decode b_Mo_told 12 = .ok (.goto 4, 3) := by decide +kernel
theorem d_Mo_told_15 : decode b_Mo_told 15 = .ok (.iconst 0, 1) := by decide +kernel
theorem d_Mo_told_16 : decode b_Mo_told 16 = .ok (.putfield 156, 3) := by decide +kernel
theorem d_Mo_told_19 : decode b_Mo_told 19 = .ok (.aload_n 0, 1) := by decide +kernel
theorem d_Mo_told_20 : decode b_Mo_told 20 = .ok (.getfield 156, 3) := by decide +kernel
theorem d_Mo_told_23 : decode b_Mo_told 23 = .ok (.ifCond .le 5, 3) := by decide +kernel
theorem d_Mo_told_26 : decode b_Mo_told 26 = .ok (.iconst 0, 1) := by decide +kernel
theorem d_Mo_told_27 : decode b_Mo_told 27 = .ok (.ireturn, 1) := by decide +kernel
theorem d_Mo_told_28 : decode b_Mo_told 28 = .ok (.iload_n 1, 1) := by decide +kernel
theorem d_Mo_told_29 : decode b_Mo_told 29 = .ok (.ifCond .ne 10, 3) := by decide +kernel
theorem d_Mo_told_32 : decode b_Mo_told 32 = .ok (.aload_n 0, 1) := by decide +kernel
theorem d_Mo_told_33 : decode b_Mo_told 33 = .ok (.getfield 159, 3) := by decide +kernel
theorem d_Mo_told_36 : decode b_Mo_told 36 = .ok (.goto 35, 3) := by decide +kernel
theorem d_Mo_told_39 : decode b_Mo_told 39 = .ok (.iload_n 1, 1) := by decide +kernel
theorem d_Mo_told_40 : decode b_Mo_told 40 = .ok (.bipush 10, 2) := by decide +kernel
theorem d_Mo_told_42 : decode b_Mo_told 42 = .ok (.if_icmp .ne 10, 3) := by decide +kernel
theorem d_Mo_told_45 : decode b_Mo_told 45 = .ok (.aload_n 0, 1) := by decide +kernel
theorem d_Mo_told_46 : decode b_Mo_told 46 = .ok (.getfield 57, 3) := by decide +kernel
theorem d_Mo_told_49 : decode b_Mo_told 49 = .ok (.goto 22, 3) := by decide +kernel
theorem d_Mo_told_52 : decode b_Mo_told 52 = .ok (.iload_n 1, 1) := by decide +kernel
theorem d_Mo_told_53 : decode b_Mo_told 53 = .ok (.bipush 11, 2) := by decide +kernel
theorem d_Mo_told_55 : decode b_Mo_told 55 = .ok (.if_icmp .ne 10, 3) := by decide +kernel
theorem d_Mo_told_58 : decode b_Mo_told 58 = .ok (.aload_n 0, 1) := by decide +kernel
theorem d_Mo_told_59 : decode b_Mo_told 59 = .ok (.getfield 181, 3) := by decide +kernel
theorem d_Mo_told_62 : decode b_Mo_told 62 = .ok (.goto 9, 3) := by decide +kernel
theorem d_Mo_told_65 : decode b_Mo_told 65 = .ok (.aload_n 0, 1) := by decide +kernel
theorem d_Mo_told_66 : decode b_Mo_told 66 = .ok (.getfield 13, 3) := by decide +kernel
theorem d_Mo_told_69 : decode b_Mo_told 69 = .ok (.iload_n 1, 1) := by decide +kernel
theorem d_Mo_told_70 : decode b_Mo_told 70 = .ok (.iaload, 1) := by decide +kernel
theorem d_Mo_told_71 : decode b_Mo_told 71 = .ok (.ireturn, 1) := by decide +kernel
/-! What the reference tells -/
def pgV (nu pi vs cp st aw wt : Nat → Int32) (a b : Nat) : Int32 := if b = 0 then nu a else if b = 1 then pi a else if b = 2 then vs a else if b = 3 then (if vs a = -1 then -1 else cp a) else if b = 4 then st a else if b = 5 then (if aw a = 0 then 0 else 1) else wt a
def orV (ot ol : Nat → Int64) (on oa : Nat → Int32) (k b : Nat) : Int64 := if b = 0 then ot k else if b = 1 then (on k).toInt64 &&& 4294967295 else if b = 2 then (if oa k = 0 then 0 else 1) else ol k
theorem pg_no {i : Int32} {n : Nat} (h : (if i < 0 ∨ ¬ i < nI n then (1 : Int32) else 0) = 0) (hn : n ≤ 4) : ∃ k : Nat, k < n ∧ i = nI k := by
  have h2 : ¬ (i < 0 ∨ ¬ i < nI n) := fun z => absurd (h.symm.trans (if_pos z)) (by decide)
  exact z_in (fun z => h2 (Or.inl z)) (Decidable.byContradiction (fun z => h2 (Or.inr z))) (by omega)
theorem pg_yes {i : Int32} {n : Nat} (h : ¬ (if i < 0 ∨ ¬ i < nI n then (1 : Int32) else 0) = 0) : i < 0 ∨ ¬ i < nI n := Decidable.byContradiction (fun z => h (if_neg z))

set_option maxHeartbeats 4000000 in
set_option maxRecDepth 100000 in
theorem c_Mo_told (l : Launch) (D : va_G) (sz : Nat) (cI : ClassId) (h : Nat) (r : Nat → Nat) (th si le lv pg pn pl rs : Int32) (tl : Nat → Int32) (i : Int32)  : Met l y_Mo_told [Cond.code y_Mo_told b_Mo_told 2 (some .int)] ({ frames := 0, cells := 0, slots := 0, locals := 0 }) (zM [.ref h, .int i] D [(h, .inr (13, mO r th si le lv pg pn pl rs)), (r 3, .inl (cI, 10, .inl tl))] [(cI, .int)] sz) (va_Qi (fun r0 (u : Int32) => ((i < 0 ∨ 11 < i) ∧ u = 1 ∧ r0 = 0) ∨ (∃ a9 : Nat, i = nI a9 ∧ a9 ≤ 11 ∧ u = 0 ∧ r0 = if a9 = 0 then si else if a9 = 10 then lv else if a9 = 11 then pg else tl a9)) (fun (u : Int32) t => zW D (va_A [(h, .inr (13, mO r th si le lv pg pn pl rs)), (r 3, .inl (cI, 10, .inl tl))] sz) [(h, .inr (13, mO r u si le lv pg pn pl rs)), (r 3, .inl (cI, 10, .inl tl))] [(cI, .int)] t) (va_A [(h, .inr (13, mO r th si le lv pg pn pl rs)), (r 3, .inl (cI, 10, .inl tl))] sz)) 0 0 (va_A [(h, .inr (13, mO r th si le lv pg pn pl rs)), (r 3, .inl (cI, 10, .inl tl))] sz) := by
  refine Met.ofW (cc := b_Mo_told) (maxL := 2) (ret := (some .int)) (by decide) rfl ?_
  intro p e s m args below meth cd s₁ Bd hml hv
  obtain ⟨rfl, hsz, hP, hK, hN, hD0⟩ := hv
  have hx := Bd.exec
  have hb := Bd.bytes
  have hr := Bd.returns
  have hts := hN.use (a := ([.ref h, .int i]).toArray)
  have hown : s.vm.findClass R_Mo = some m.cls := findClass_of_methodNamed Bd.named
  have hlocks := Bd.notSynchronized
  subst hsz
  have hD := hD0.self (sz := s.heap.size)
  clear hD0
  have hA : ∀ q : Nat, s.heap.size ≤ q → va_A [(h, .inr (13, mO r th si le lv pg pn pl rs)), (r 3, .inl (cI, 10, .inl tl))] s.heap.size q := fun q h => Or.inr h
  have hS : va_S (va_A [(h, .inr (13, mO r th si le lv pg pn pl rs)), (r 3, .inl (cI, 10, .inl tl))] s.heap.size) s.heap s.heap [] := va_S.rf
  generalize hAe : va_A [(h, .inr (13, mO r th si le lv pg pn pl rs)), (r 3, .inl (cI, 10, .inl tl))] s.heap.size = A at hD hA hS ⊢
  have hP : va_P D classes [(h, .inr (13, mO r th si le lv pg pn pl rs)), (r 3, .inl (cI, 10, .inl tl))] s.heap := hP
  have hl := lv_entry ([.ref h, .int i]) (n := 2) (Nat.le_of_ble_eq_true rfl)
  rw [lg_entry_eq]
  generalize (lg_sl ([.ref h, .int i]) ++ List.replicate (2 - (lg_sl ([.ref h, .int i])).length) Slot.unset).toArray = ls at hl ⊢
  have hl : lv_has ls 2 [(0, .ref h), (1, .int i)] := hl
  refine lv_aload_n hx hb d_Mo_told_0 rfl (lv_at hl 0 rfl) ?_
  refine lv_iload_n hx hb d_Mo_told_1 rfl (lv_at hl 1 rfl) ?_
  refine lv_if_lt (tgt := 11) hx hb d_Mo_told_2 rfl (fun h2 => ?_) (fun h2 => ?_)
  · refine lv_iconst (v := 1) hx hb d_Mo_told_11 (by decide) ?_
    refine lv_goto (tgt := 16) hx hb d_Mo_told_12 rfl ?_
    refine va_put (D := D) (ci := 13) (v := .int 1) (ty := .int) (C := R_Mo) (T := F_Mo) (N := 54) hx hb hts i_Mo t_Mo t_Mo_ok n_Mo hown hK hP hD hS 0 rfl rfl 0 (by decide) (hts _ wd_1088) (fun _ h9 => h9) rfl (by decide +kernel) rfl rfl (Nat.le_of_ble_eq_true rfl) d_Mo_told_16 (fun H locs hP hD hS => ?_)
    have hP : va_P D classes [(h, .inr (13, mO r 1 si le lv pg pn pl rs)), (r 3, .inl (cI, 10, .inl tl))] H := hP
    have hD : va_D A [(h, .inr (13, mO r 1 si le lv pg pn pl rs)), (r 3, .inl (cI, 10, .inl tl))] := hD
    refine lv_aload_n hx hb d_Mo_told_19 rfl (lv_at hl 0 rfl) ?_
    refine va_get (D := D) (ci := 13) (v := .int 1) (C := R_Mo) (T := F_Mo) (N := 54) hx hb hts i_Mo hown hK hP 0 rfl rfl 0 (by decide) (hts _ wd_1088) (fun _ h9 => h9) rfl d_Mo_told_20 ?_
    refine lv_if_le (tgt := 28) hx hb d_Mo_told_23 rfl (fun h9 => absurd h9 (by decide)) (fun h23 => ?_)
    refine lv_iconst (v := 0) hx hb d_Mo_told_26 (by decide) ?_
    have hP9 := hP.sub (ws' := [(h, .inr (13, mO r 1 si le lv pg pn pl rs)), (r 3, .inl (cI, 10, .inl tl))]) [0, 1] rfl
    have hD9 := hD.sub (ws' := [(h, .inr (13, mO r 1 si le lv pg pn pl rs)), (r 3, .inl (cI, 10, .inl tl))]) [0, 1] (by decide) rfl
    have hK9 := hK.sub (tys' := [(cI, .int)]) [0] rfl
    exact W.iret (v := 0) hx hb hr (fun t ht hW => ⟨⟨_, 1, rfl, Or.inl ⟨by first | exact Or.inl h2 | exact Or.inr (Int32.not_le.mp h8), rfl, rfl⟩, ⟨by rw [ht]; exact hP9, va_K.moved hW.alike hK9, hD9⟩⟩, hS.F ht⟩) hS.2.2 d_Mo_told_27
  · refine lv_iload_n hx hb d_Mo_told_5 rfl (lv_at hl 1 rfl) ?_
    refine lv_bipush (v := 11) hx hb d_Mo_told_6 (by decide) ?_
    refine lv_icmp_le (tgt := 15) hx hb d_Mo_told_8 rfl (fun h8 => ?_) (fun h8 => ?_)
    · obtain ⟨a, ha, hae⟩ := nI_of2 (x := i) (M := 11) (n := 11) (by decide) h2 h8
      subst hae
      refine lv_iconst (v := 0) hx hb d_Mo_told_15 (by decide) ?_
      refine va_put (D := D) (ci := 13) (v := .int 0) (ty := .int) (C := R_Mo) (T := F_Mo) (N := 54) hx hb hts i_Mo t_Mo t_Mo_ok n_Mo hown hK hP hD hS 0 rfl rfl 0 (by decide) (hts _ wd_1088) (fun _ h9 => h9) rfl (by decide +kernel) rfl rfl (Nat.le_of_ble_eq_true rfl) d_Mo_told_16 (fun H locs hP hD hS => ?_)
      have hP : va_P D classes [(h, .inr (13, mO r 0 si le lv pg pn pl rs)), (r 3, .inl (cI, 10, .inl tl))] H := hP
      have hD : va_D A [(h, .inr (13, mO r 0 si le lv pg pn pl rs)), (r 3, .inl (cI, 10, .inl tl))] := hD
      refine lv_aload_n hx hb d_Mo_told_19 rfl (lv_at hl 0 rfl) ?_
      refine va_get (D := D) (ci := 13) (v := .int 0) (C := R_Mo) (T := F_Mo) (N := 54) hx hb hts i_Mo hown hK hP 0 rfl rfl 0 (by decide) (hts _ wd_1088) (fun _ h9 => h9) rfl d_Mo_told_20 ?_
      refine lv_if_le (tgt := 28) hx hb d_Mo_told_23 rfl (fun h23 => ?_) (fun h9 => absurd h9 (by decide))
      refine lv_iload_n hx hb d_Mo_told_28 rfl (lv_at hl 1 rfl) ?_
      refine lv_if_ne (tgt := 39) hx hb d_Mo_told_29 rfl (fun h29 => ?_) (fun h29 => ?_)
      · have h29 : ¬ a = 0 := fun z => h29 (by rw [z]; rfl)
        refine lv_iload_n hx hb d_Mo_told_39 rfl (lv_at hl 1 rfl) ?_
        refine lv_bipush (v := 10) hx hb d_Mo_told_40 (by decide) ?_
        refine lv_icmp_ne (tgt := 52) hx hb d_Mo_told_42 rfl (fun h42 => ?_) (fun h42 => ?_)
        · have h42 : ¬ a = 10 := fun z => h42 (by rw [z]; rfl)
          refine lv_iload_n hx hb d_Mo_told_52 rfl (lv_at hl 1 rfl) ?_
          refine lv_bipush (v := 11) hx hb d_Mo_told_53 (by decide) ?_
          refine lv_icmp_ne (tgt := 65) hx hb d_Mo_told_55 rfl (fun h55 => ?_) (fun h55 => ?_)
          · have h55 : ¬ a = 11 := fun z => h55 (by rw [z]; rfl)
            refine lv_aload_n hx hb d_Mo_told_65 rfl (lv_at hl 0 rfl) ?_
            refine va_get (D := D) (ci := 13) (v := .ref (r 3)) (C := R_Mo) (T := F_Mo) (N := 54) hx hb hts i_Mo hown hK hP 0 rfl rfl 3 (by decide) (hts _ wd_1091) (fun _ h9 => h9) rfl d_Mo_told_66 ?_
            refine lv_iload_n hx hb d_Mo_told_69 rfl (lv_at hl 1 rfl) ?_
            refine z_iald hx hb hK hP 1 0 rfl rfl a rfl (by omega) (by omega) d_Mo_told_70 ?_
            have hP9 := hP.sub (ws' := [(h, .inr (13, mO r 0 si le lv pg pn pl rs)), (r 3, .inl (cI, 10, .inl tl))]) [0, 1] rfl
            have hD9 := hD.sub (ws' := [(h, .inr (13, mO r 0 si le lv pg pn pl rs)), (r 3, .inl (cI, 10, .inl tl))]) [0, 1] (by decide) rfl
            have hK9 := hK.sub (tys' := [(cI, .int)]) [0] rfl
            exact W.iret (v := (tl a)) hx hb hr (fun t ht hW => ⟨⟨_, 0, rfl, Or.inr ⟨a, rfl, ha, rfl, by first | rw [if_pos h29] | rw [if_neg h29, if_pos h42] | rw [if_neg h29, if_neg h42, if_pos h55] | rw [if_neg h29, if_neg h42, if_neg h55]⟩, ⟨by rw [ht]; exact hP9, va_K.moved hW.alike hK9, hD9⟩⟩, hS.F ht⟩) hS.2.2 d_Mo_told_71
          · have h55 := (nI_eq (b := 11) (by omega) (by omega)).mp h55
            refine lv_aload_n hx hb d_Mo_told_58 rfl (lv_at hl 0 rfl) ?_
            refine va_get (D := D) (ci := 13) (v := .int pg) (C := R_Mo) (T := F_Mo) (N := 54) hx hb hts i_Mo hown hK hP 0 rfl rfl 19 (by decide) (hts _ wd_1107) (fun _ h9 => h9) rfl d_Mo_told_59 ?_
            refine lv_goto (tgt := 71) hx hb d_Mo_told_62 rfl ?_
            have hP9 := hP.sub (ws' := [(h, .inr (13, mO r 0 si le lv pg pn pl rs)), (r 3, .inl (cI, 10, .inl tl))]) [0, 1] rfl
            have hD9 := hD.sub (ws' := [(h, .inr (13, mO r 0 si le lv pg pn pl rs)), (r 3, .inl (cI, 10, .inl tl))]) [0, 1] (by decide) rfl
            have hK9 := hK.sub (tys' := [(cI, .int)]) [0] rfl
            exact W.iret (v := pg) hx hb hr (fun t ht hW => ⟨⟨_, 0, rfl, Or.inr ⟨a, rfl, ha, rfl, by first | rw [if_pos h29] | rw [if_neg h29, if_pos h42] | rw [if_neg h29, if_neg h42, if_pos h55] | rw [if_neg h29, if_neg h42, if_neg h55]⟩, ⟨by rw [ht]; exact hP9, va_K.moved hW.alike hK9, hD9⟩⟩, hS.F ht⟩) hS.2.2 d_Mo_told_71
        · have h42 := (nI_eq (b := 10) (by omega) (by omega)).mp h42
          refine lv_aload_n hx hb d_Mo_told_45 rfl (lv_at hl 0 rfl) ?_
          refine va_get (D := D) (ci := 13) (v := .int lv) (C := R_Mo) (T := F_Mo) (N := 54) hx hb hts i_Mo hown hK hP 0 rfl rfl 18 (by decide) (hts _ wd_1106) (fun _ h9 => h9) rfl d_Mo_told_46 ?_
          refine lv_goto (tgt := 71) hx hb d_Mo_told_49 rfl ?_
          have hP9 := hP.sub (ws' := [(h, .inr (13, mO r 0 si le lv pg pn pl rs)), (r 3, .inl (cI, 10, .inl tl))]) [0, 1] rfl
          have hD9 := hD.sub (ws' := [(h, .inr (13, mO r 0 si le lv pg pn pl rs)), (r 3, .inl (cI, 10, .inl tl))]) [0, 1] (by decide) rfl
          have hK9 := hK.sub (tys' := [(cI, .int)]) [0] rfl
          exact W.iret (v := lv) hx hb hr (fun t ht hW => ⟨⟨_, 0, rfl, Or.inr ⟨a, rfl, ha, rfl, by first | rw [if_pos h29] | rw [if_neg h29, if_pos h42] | rw [if_neg h29, if_neg h42, if_pos h55] | rw [if_neg h29, if_neg h42, if_neg h55]⟩, ⟨by rw [ht]; exact hP9, va_K.moved hW.alike hK9, hD9⟩⟩, hS.F ht⟩) hS.2.2 d_Mo_told_71
      · have h29 := (nI_eq (b := 0) (by omega) (by omega)).mp h29
        refine lv_aload_n hx hb d_Mo_told_32 rfl (lv_at hl 0 rfl) ?_
        refine va_get (D := D) (ci := 13) (v := .int si) (C := R_Mo) (T := F_Mo) (N := 54) hx hb hts i_Mo hown hK hP 0 rfl rfl 2 (by decide) (hts _ wd_1090) (fun _ h9 => h9) rfl d_Mo_told_33 ?_
        refine lv_goto (tgt := 71) hx hb d_Mo_told_36 rfl ?_
        have hP9 := hP.sub (ws' := [(h, .inr (13, mO r 0 si le lv pg pn pl rs)), (r 3, .inl (cI, 10, .inl tl))]) [0, 1] rfl
        have hD9 := hD.sub (ws' := [(h, .inr (13, mO r 0 si le lv pg pn pl rs)), (r 3, .inl (cI, 10, .inl tl))]) [0, 1] (by decide) rfl
        have hK9 := hK.sub (tys' := [(cI, .int)]) [0] rfl
        exact W.iret (v := si) hx hb hr (fun t ht hW => ⟨⟨_, 0, rfl, Or.inr ⟨a, rfl, ha, rfl, by first | rw [if_pos h29] | rw [if_neg h29, if_pos h42] | rw [if_neg h29, if_neg h42, if_pos h55] | rw [if_neg h29, if_neg h42, if_neg h55]⟩, ⟨by rw [ht]; exact hP9, va_K.moved hW.alike hK9, hD9⟩⟩, hS.F ht⟩) hS.2.2 d_Mo_told_71
    · refine lv_iconst (v := 1) hx hb d_Mo_told_11 (by decide) ?_
      refine lv_goto (tgt := 16) hx hb d_Mo_told_12 rfl ?_
      refine va_put (D := D) (ci := 13) (v := .int 1) (ty := .int) (C := R_Mo) (T := F_Mo) (N := 54) hx hb hts i_Mo t_Mo t_Mo_ok n_Mo hown hK hP hD hS 0 rfl rfl 0 (by decide) (hts _ wd_1088) (fun _ h9 => h9) rfl (by decide +kernel) rfl rfl (Nat.le_of_ble_eq_true rfl) d_Mo_told_16 (fun H locs hP hD hS => ?_)
      have hP : va_P D classes [(h, .inr (13, mO r 1 si le lv pg pn pl rs)), (r 3, .inl (cI, 10, .inl tl))] H := hP
      have hD : va_D A [(h, .inr (13, mO r 1 si le lv pg pn pl rs)), (r 3, .inl (cI, 10, .inl tl))] := hD
      refine lv_aload_n hx hb d_Mo_told_19 rfl (lv_at hl 0 rfl) ?_
      refine va_get (D := D) (ci := 13) (v := .int 1) (C := R_Mo) (T := F_Mo) (N := 54) hx hb hts i_Mo hown hK hP 0 rfl rfl 0 (by decide) (hts _ wd_1088) (fun _ h9 => h9) rfl d_Mo_told_20 ?_
      refine lv_if_le (tgt := 28) hx hb d_Mo_told_23 rfl (fun h9 => absurd h9 (by decide)) (fun h23 => ?_)
      refine lv_iconst (v := 0) hx hb d_Mo_told_26 (by decide) ?_
      have hP9 := hP.sub (ws' := [(h, .inr (13, mO r 1 si le lv pg pn pl rs)), (r 3, .inl (cI, 10, .inl tl))]) [0, 1] rfl
      have hD9 := hD.sub (ws' := [(h, .inr (13, mO r 1 si le lv pg pn pl rs)), (r 3, .inl (cI, 10, .inl tl))]) [0, 1] (by decide) rfl
      have hK9 := hK.sub (tys' := [(cI, .int)]) [0] rfl
      exact W.iret (v := 0) hx hb hr (fun t ht hW => ⟨⟨_, 1, rfl, Or.inl ⟨by first | exact Or.inl h2 | exact Or.inr (Int32.not_le.mp h8), rfl, rfl⟩, ⟨by rw [ht]; exact hP9, va_K.moved hW.alike hK9, hD9⟩⟩, hS.F ht⟩) hS.2.2 d_Mo_told_27
set_option maxHeartbeats 4000000 in
set_option maxRecDepth 100000 in
theorem c_Mo_noProgramme (l : Launch) (D : va_G) (cI : ClassId) (h : Nat) (r : Nat → Nat) (th si le lv pn pl rs : Int32) (ng : Nat) (i : Int32)  : Met l y_Mo_noProgramme [Cond.code y_Mo_noProgramme b_Mo_noProgramme 2 (some .boolean)] ({ frames := 0, cells := 0, slots := 0, locals := 0 }) (zP [.ref h, .int i] D [(h, .inr (13, mO r th si le lv (nI ng) pn pl rs))] []) (vp_Si (fun r => r = if i < 0 ∨ ¬ i < nI ng then 1 else 0)) 0 0 (fun _ => False) := by
  refine Met.ofW (cc := b_Mo_noProgramme) (maxL := 2) (ret := (some .boolean)) (by decide) rfl ?_
  intro p e s m args below meth cd s₁ Bd hml hv
  obtain ⟨rfl, hP, hK, hN⟩ := hv
  have hx := Bd.exec
  have hb := Bd.bytes
  have hr := Bd.returns
  have hts := hN.use (a := ([.ref h, .int i]).toArray)
  have hown : s.vm.findClass R_Mo = some m.cls := findClass_of_methodNamed Bd.named
  have hlocks := Bd.notSynchronized
  have hP : va_P D classes [(h, .inr (13, mO r th si le lv (nI ng) pn pl rs))] s.heap := hP
  have hl := lv_entry ([.ref h, .int i]) (n := 2) (Nat.le_of_ble_eq_true rfl)
  rw [lg_entry_eq]
  generalize (lg_sl ([.ref h, .int i]) ++ List.replicate (2 - (lg_sl ([.ref h, .int i])).length) Slot.unset).toArray = ls at hl ⊢
  have hl : lv_has ls 2 [(0, .ref h), (1, .int i)] := hl
  refine lv_iload_n hx hb d_Mo_noProgramme_0 rfl (lv_at hl 1 rfl) ?_
  refine lv_if_lt (tgt := 12) hx hb d_Mo_noProgramme_1 rfl (fun h1 => ?_) (fun h1 => ?_)
  · refine lv_iconst (v := 1) hx hb d_Mo_noProgramme_12 (by decide) ?_
    refine lv_goto (tgt := 17) hx hb d_Mo_noProgramme_13 rfl ?_
    exact W.zret (v := 1) hx hb hr rfl (fun t ht hW => ⟨_, rfl, (by first | exact (if_pos (Or.inl h1)).symm | exact (if_pos (Or.inr h9)).symm | exact (if_neg (fun z => z.elim h1 (fun z => z h9))).symm), ht⟩) (fun _ h => by cases h) d_Mo_noProgramme_17
  · refine lv_iload_n hx hb d_Mo_noProgramme_4 rfl (lv_at hl 1 rfl) ?_
    refine lv_aload_n hx hb d_Mo_noProgramme_5 rfl (lv_at hl 0 rfl) ?_
    refine va_get (D := D) (ci := 13) (v := .int (nI ng)) (C := R_Mo) (T := F_Mo) (N := 54) hx hb hts i_Mo hown hK hP 0 rfl rfl 19 (by decide) (hts _ wd_1107) (fun _ h9 => h9) rfl d_Mo_noProgramme_6 ?_
    refine lv_icmp_lt (tgt := 16) hx hb d_Mo_noProgramme_9 rfl (fun h9 => ?_) (fun h9 => ?_)
    · refine lv_iconst (v := 0) hx hb d_Mo_noProgramme_16 (by decide) ?_
      exact W.zret (v := 0) hx hb hr rfl (fun t ht hW => ⟨_, rfl, (by first | exact (if_pos (Or.inl h1)).symm | exact (if_pos (Or.inr h9)).symm | exact (if_neg (fun z => z.elim h1 (fun z => z h9))).symm), ht⟩) (fun _ h => by cases h) d_Mo_noProgramme_17
    · refine lv_iconst (v := 1) hx hb d_Mo_noProgramme_12 (by decide) ?_
      refine lv_goto (tgt := 17) hx hb d_Mo_noProgramme_13 rfl ?_
      exact W.zret (v := 1) hx hb hr rfl (fun t ht hW => ⟨_, rfl, (by first | exact (if_pos (Or.inl h1)).symm | exact (if_pos (Or.inr h9)).symm | exact (if_neg (fun z => z.elim h1 (fun z => z h9))).symm), ht⟩) (fun _ h => by cases h) d_Mo_noProgramme_17
set_option maxHeartbeats 4000000 in
set_option maxRecDepth 100000 in
theorem c_Mo_programme (l : Launch) (D : va_G) (sz : Nat) (cI : ClassId) (h : Nat) (r : Nat → Nat) (th si le lv pn pl rs : Int32) (cZ : ClassId) (ng : Nat) (nu pi vs cp sc aw wt : Nat → Int32) (i wh : Int32) (hng : ng ≤ 4) : Met l y_Mo_programme [Cond.code y_Mo_programme b_Mo_programme 3 (some .int)] ({ frames := 1, cells := 0, slots := 0, locals := 21 }) (zM [.ref h, .int i, .int wh] D [(h, .inr (13, mO r th si le lv (nI ng) pn pl rs)), (r 20, .inl (cI, 4, .inl nu)), (r 21, .inl (cI, 4, .inl pi)), (r 22, .inl (cI, 4, .inl vs)), (r 23, .inl (cI, 4, .inl cp)), (r 24, .inl (cI, 4, .inl sc)), (r 25, .inl (cZ, 4, .inl aw)), (r 27, .inl (cI, 4, .inl wt))] [(cI, .int), (cZ, .boolean)] sz) (va_Qi (fun r0 (u : Int32) => ((wh < 0 ∨ 6 < wh) ∧ u = 1 ∧ r0 = 0) ∨ (¬ (wh < 0 ∨ 6 < wh) ∧ (i < 0 ∨ ¬ i < nI ng) ∧ u = 2 ∧ r0 = 0) ∨ (∃ a9 b9 : Nat, i = nI a9 ∧ a9 < ng ∧ wh = nI b9 ∧ b9 ≤ 6 ∧ u = 0 ∧ r0 = pgV nu pi vs cp sc aw wt a9 b9)) (fun (u : Int32) t => zW D (va_A [(h, .inr (13, mO r th si le lv (nI ng) pn pl rs)), (r 20, .inl (cI, 4, .inl nu)), (r 21, .inl (cI, 4, .inl pi)), (r 22, .inl (cI, 4, .inl vs)), (r 23, .inl (cI, 4, .inl cp)), (r 24, .inl (cI, 4, .inl sc)), (r 25, .inl (cZ, 4, .inl aw)), (r 27, .inl (cI, 4, .inl wt))] sz) [(h, .inr (13, mO r u si le lv (nI ng) pn pl rs)), (r 20, .inl (cI, 4, .inl nu)), (r 21, .inl (cI, 4, .inl pi)), (r 22, .inl (cI, 4, .inl vs)), (r 23, .inl (cI, 4, .inl cp)), (r 24, .inl (cI, 4, .inl sc)), (r 25, .inl (cZ, 4, .inl aw)), (r 27, .inl (cI, 4, .inl wt))] [(cI, .int), (cZ, .boolean)] t) (va_A [(h, .inr (13, mO r th si le lv (nI ng) pn pl rs)), (r 20, .inl (cI, 4, .inl nu)), (r 21, .inl (cI, 4, .inl pi)), (r 22, .inl (cI, 4, .inl vs)), (r 23, .inl (cI, 4, .inl cp)), (r 24, .inl (cI, 4, .inl sc)), (r 25, .inl (cZ, 4, .inl aw)), (r 27, .inl (cI, 4, .inl wt))] sz)) 0 0 (va_A [(h, .inr (13, mO r th si le lv (nI ng) pn pl rs)), (r 20, .inl (cI, 4, .inl nu)), (r 21, .inl (cI, 4, .inl pi)), (r 22, .inl (cI, 4, .inl vs)), (r 23, .inl (cI, 4, .inl cp)), (r 24, .inl (cI, 4, .inl sc)), (r 25, .inl (cZ, 4, .inl aw)), (r 27, .inl (cI, 4, .inl wt))] sz) := by
  refine Met.ofW (cc := b_Mo_programme) (maxL := 3) (ret := (some .int)) (by decide) rfl ?_
  intro p e s m args below meth cd s₁ Bd hml hv
  obtain ⟨rfl, hsz, hP, hK, hN, hD0⟩ := hv
  have hx := Bd.exec
  have hb := Bd.bytes
  have hr := Bd.returns
  have hts := hN.use (a := ([.ref h, .int i, .int wh]).toArray)
  have hown : s.vm.findClass R_Mo = some m.cls := findClass_of_methodNamed Bd.named
  have hlocks := Bd.notSynchronized
  subst hsz
  have hD := hD0.self (sz := s.heap.size)
  clear hD0
  have hA : ∀ q : Nat, s.heap.size ≤ q → va_A [(h, .inr (13, mO r th si le lv (nI ng) pn pl rs)), (r 20, .inl (cI, 4, .inl nu)), (r 21, .inl (cI, 4, .inl pi)), (r 22, .inl (cI, 4, .inl vs)), (r 23, .inl (cI, 4, .inl cp)), (r 24, .inl (cI, 4, .inl sc)), (r 25, .inl (cZ, 4, .inl aw)), (r 27, .inl (cI, 4, .inl wt))] s.heap.size q := fun q h => Or.inr h
  have hS : va_S (va_A [(h, .inr (13, mO r th si le lv (nI ng) pn pl rs)), (r 20, .inl (cI, 4, .inl nu)), (r 21, .inl (cI, 4, .inl pi)), (r 22, .inl (cI, 4, .inl vs)), (r 23, .inl (cI, 4, .inl cp)), (r 24, .inl (cI, 4, .inl sc)), (r 25, .inl (cZ, 4, .inl aw)), (r 27, .inl (cI, 4, .inl wt))] s.heap.size) s.heap s.heap [] := va_S.rf
  generalize hAe : va_A [(h, .inr (13, mO r th si le lv (nI ng) pn pl rs)), (r 20, .inl (cI, 4, .inl nu)), (r 21, .inl (cI, 4, .inl pi)), (r 22, .inl (cI, 4, .inl vs)), (r 23, .inl (cI, 4, .inl cp)), (r 24, .inl (cI, 4, .inl sc)), (r 25, .inl (cZ, 4, .inl aw)), (r 27, .inl (cI, 4, .inl wt))] s.heap.size = A at hD hA hS ⊢
  have hP : va_P D classes [(h, .inr (13, mO r th si le lv (nI ng) pn pl rs)), (r 20, .inl (cI, 4, .inl nu)), (r 21, .inl (cI, 4, .inl pi)), (r 22, .inl (cI, 4, .inl vs)), (r 23, .inl (cI, 4, .inl cp)), (r 24, .inl (cI, 4, .inl sc)), (r 25, .inl (cZ, 4, .inl aw)), (r 27, .inl (cI, 4, .inl wt))] s.heap := hP
  have hl := lv_entry ([.ref h, .int i, .int wh]) (n := 3) (Nat.le_of_ble_eq_true rfl)
  rw [lg_entry_eq]
  generalize (lg_sl ([.ref h, .int i, .int wh]) ++ List.replicate (3 - (lg_sl ([.ref h, .int i, .int wh])).length) Slot.unset).toArray = ls at hl ⊢
  have hl : lv_has ls 3 [(0, .ref h), (1, .int i), (2, .int wh)] := hl
  refine lv_aload_n hx hb d_Mo_programme_0 rfl (lv_at hl 0 rfl) ?_
  refine lv_iload_n hx hb d_Mo_programme_1 rfl (lv_at hl 2 rfl) ?_
  refine lv_if_lt (tgt := 11) hx hb d_Mo_programme_2 rfl (fun h2 => ?_) (fun h2 => ?_)
  · refine lv_iconst (v := 1) hx hb d_Mo_programme_11 (by decide) ?_
    refine lv_goto (tgt := 28) hx hb d_Mo_programme_12 rfl ?_
    refine va_put (D := D) (ci := 13) (v := .int 1) (ty := .int) (C := R_Mo) (T := F_Mo) (N := 54) hx hb hts i_Mo t_Mo t_Mo_ok n_Mo hown hK hP hD hS 0 rfl rfl 0 (by decide) (hts _ wd_1088) (fun _ h9 => h9) rfl (by decide +kernel) rfl rfl (Nat.le_of_ble_eq_true rfl) d_Mo_programme_28 (fun H locs hP hD hS => ?_)
    have hP : va_P D classes [(h, .inr (13, mO r 1 si le lv (nI ng) pn pl rs)), (r 20, .inl (cI, 4, .inl nu)), (r 21, .inl (cI, 4, .inl pi)), (r 22, .inl (cI, 4, .inl vs)), (r 23, .inl (cI, 4, .inl cp)), (r 24, .inl (cI, 4, .inl sc)), (r 25, .inl (cZ, 4, .inl aw)), (r 27, .inl (cI, 4, .inl wt))] H := hP
    have hD : va_D A [(h, .inr (13, mO r 1 si le lv (nI ng) pn pl rs)), (r 20, .inl (cI, 4, .inl nu)), (r 21, .inl (cI, 4, .inl pi)), (r 22, .inl (cI, 4, .inl vs)), (r 23, .inl (cI, 4, .inl cp)), (r 24, .inl (cI, 4, .inl sc)), (r 25, .inl (cZ, 4, .inl aw)), (r 27, .inl (cI, 4, .inl wt))] := hD
    refine lv_aload_n hx hb d_Mo_programme_31 rfl (lv_at hl 0 rfl) ?_
    refine va_get (D := D) (ci := 13) (v := .int 1) (C := R_Mo) (T := F_Mo) (N := 54) hx hb hts i_Mo hown hK hP 0 rfl rfl 0 (by decide) (hts _ wd_1088) (fun _ h9 => h9) rfl d_Mo_programme_32 ?_
    refine lv_if_le (tgt := 40) hx hb d_Mo_programme_35 rfl (fun h9 => absurd h9 (by decide)) (fun h35 => ?_)
    refine lv_iconst (v := 0) hx hb d_Mo_programme_38 (by decide) ?_
    have hP9 := hP.sub (ws' := [(h, .inr (13, mO r 1 si le lv (nI ng) pn pl rs)), (r 20, .inl (cI, 4, .inl nu)), (r 21, .inl (cI, 4, .inl pi)), (r 22, .inl (cI, 4, .inl vs)), (r 23, .inl (cI, 4, .inl cp)), (r 24, .inl (cI, 4, .inl sc)), (r 25, .inl (cZ, 4, .inl aw)), (r 27, .inl (cI, 4, .inl wt))]) [0, 1, 2, 3, 4, 5, 6, 7] rfl
    have hD9 := hD.sub (ws' := [(h, .inr (13, mO r 1 si le lv (nI ng) pn pl rs)), (r 20, .inl (cI, 4, .inl nu)), (r 21, .inl (cI, 4, .inl pi)), (r 22, .inl (cI, 4, .inl vs)), (r 23, .inl (cI, 4, .inl cp)), (r 24, .inl (cI, 4, .inl sc)), (r 25, .inl (cZ, 4, .inl aw)), (r 27, .inl (cI, 4, .inl wt))]) [0, 1, 2, 3, 4, 5, 6, 7] (by decide) rfl
    have hK9 := hK.sub (tys' := [(cI, .int), (cZ, .boolean)]) [0, 1] rfl
    exact W.iret (v := 0) hx hb hr (fun t ht hW => ⟨⟨_, 1, rfl, Or.inl ⟨by first | exact Or.inl h2 | exact Or.inr (Int32.not_le.mp h8), rfl, rfl⟩, ⟨by rw [ht]; exact hP9, va_K.moved hW.alike hK9, hD9⟩⟩, hS.F ht⟩) hS.2.2 d_Mo_programme_39
  · refine lv_iload_n hx hb d_Mo_programme_5 rfl (lv_at hl 2 rfl) ?_
    refine lv_bipush (v := 6) hx hb d_Mo_programme_6 (by decide) ?_
    refine lv_icmp_le (tgt := 15) hx hb d_Mo_programme_8 rfl (fun h8 => ?_) (fun h8 => ?_)
    · obtain ⟨b, hb6, hbe⟩ := nI_of2 (x := wh) (M := 6) (n := 6) (by decide) h2 h8
      have hno : ¬ (wh < 0 ∨ 6 < wh) := fun z => z.elim h2 (Int32.not_lt.mpr h8)
      refine lv_aload_n hx hb d_Mo_programme_15 rfl (lv_at hl 0 rfl) ?_
      refine lv_iload_n hx hb d_Mo_programme_16 rfl (lv_at hl 1 rfl) ?_
      have hPc := hP.sub (ws' := [(h, .inr (13, mO r th si le lv (nI ng) pn pl rs))]) [0] rfl
      have hKc := hK.sub (tys' := []) [] rfl
      refine z_ci (va_runV (As := [.int i]) (rest := [.ref h]) ⟨hx, hb, hml, hown, hts⟩ (c_Mo_noProgramme l D cI h r th si le lv pn pl rs ng i ) (z_cV hN wd_1400 wd_67 wd_1397 hd_Mo_noProgramme rfl rfl ⟨Nat.le_of_ble_eq_true rfl, Nat.le_of_ble_eq_true rfl⟩ wd_1399 wd_52) (z_preV (va_recv (ci := 13) (q0 := 0) hK hP rfl rfl) hPc hKc hN) rfl rfl hl.1 rfl (lv_room (Nat.le_of_ble_eq_true rfl)) d_Mo_programme_17 ⟨Nat.le_of_ble_eq_true rfl, Nat.le_of_ble_eq_true rfl⟩) (fun r17 e17 => ?_)
      subst e17
      refine lv_if_eq (tgt := 27) hx hb d_Mo_programme_20 rfl (fun h20 => ?_) (fun h20 => ?_)
      · obtain ⟨a, ha, hae⟩ := pg_no h20 hng
        subst hae
        subst hbe
        refine lv_iconst (v := 0) hx hb d_Mo_programme_27 (by decide) ?_
        refine va_put (D := D) (ci := 13) (v := .int 0) (ty := .int) (C := R_Mo) (T := F_Mo) (N := 54) hx hb hts i_Mo t_Mo t_Mo_ok n_Mo hown hK hP hD hS 0 rfl rfl 0 (by decide) (hts _ wd_1088) (fun _ h9 => h9) rfl (by decide +kernel) rfl rfl (Nat.le_of_ble_eq_true rfl) d_Mo_programme_28 (fun H locs hP hD hS => ?_)
        have hP : va_P D classes [(h, .inr (13, mO r 0 si le lv (nI ng) pn pl rs)), (r 20, .inl (cI, 4, .inl nu)), (r 21, .inl (cI, 4, .inl pi)), (r 22, .inl (cI, 4, .inl vs)), (r 23, .inl (cI, 4, .inl cp)), (r 24, .inl (cI, 4, .inl sc)), (r 25, .inl (cZ, 4, .inl aw)), (r 27, .inl (cI, 4, .inl wt))] H := hP
        have hD : va_D A [(h, .inr (13, mO r 0 si le lv (nI ng) pn pl rs)), (r 20, .inl (cI, 4, .inl nu)), (r 21, .inl (cI, 4, .inl pi)), (r 22, .inl (cI, 4, .inl vs)), (r 23, .inl (cI, 4, .inl cp)), (r 24, .inl (cI, 4, .inl sc)), (r 25, .inl (cZ, 4, .inl aw)), (r 27, .inl (cI, 4, .inl wt))] := hD
        refine lv_aload_n hx hb d_Mo_programme_31 rfl (lv_at hl 0 rfl) ?_
        refine va_get (D := D) (ci := 13) (v := .int 0) (C := R_Mo) (T := F_Mo) (N := 54) hx hb hts i_Mo hown hK hP 0 rfl rfl 0 (by decide) (hts _ wd_1088) (fun _ h9 => h9) rfl d_Mo_programme_32 ?_
        refine lv_if_le (tgt := 40) hx hb d_Mo_programme_35 rfl (fun h35 => ?_) (fun h9 => absurd h9 (by decide))
        refine lv_iload_n hx hb d_Mo_programme_40 rfl (lv_at hl 2 rfl) ?_
        by_cases hs0 : b = 0
        · subst hs0
          refine lv_tableIn (tgt := 80) hx hb d_Mo_programme_41 (by decide) (by decide) rfl rfl ?_
          refine lv_aload_n hx hb d_Mo_programme_80 rfl (lv_at hl 0 rfl) ?_
          refine va_get (D := D) (ci := 13) (v := .ref (r 20)) (C := R_Mo) (T := F_Mo) (N := 54) hx hb hts i_Mo hown hK hP 0 rfl rfl 20 (by decide) (hts _ wd_1108) (fun _ h9 => h9) rfl d_Mo_programme_81 ?_
          refine lv_iload_n hx hb d_Mo_programme_84 rfl (lv_at hl 1 rfl) ?_
          refine z_iald hx hb hK hP 1 0 rfl rfl a rfl (by omega) (by omega) d_Mo_programme_85 ?_
          have hP9 := hP.sub (ws' := [(h, .inr (13, mO r 0 si le lv (nI ng) pn pl rs)), (r 20, .inl (cI, 4, .inl nu)), (r 21, .inl (cI, 4, .inl pi)), (r 22, .inl (cI, 4, .inl vs)), (r 23, .inl (cI, 4, .inl cp)), (r 24, .inl (cI, 4, .inl sc)), (r 25, .inl (cZ, 4, .inl aw)), (r 27, .inl (cI, 4, .inl wt))]) [0, 1, 2, 3, 4, 5, 6, 7] rfl
          have hD9 := hD.sub (ws' := [(h, .inr (13, mO r 0 si le lv (nI ng) pn pl rs)), (r 20, .inl (cI, 4, .inl nu)), (r 21, .inl (cI, 4, .inl pi)), (r 22, .inl (cI, 4, .inl vs)), (r 23, .inl (cI, 4, .inl cp)), (r 24, .inl (cI, 4, .inl sc)), (r 25, .inl (cZ, 4, .inl aw)), (r 27, .inl (cI, 4, .inl wt))]) [0, 1, 2, 3, 4, 5, 6, 7] (by decide) rfl
          have hK9 := hK.sub (tys' := [(cI, .int), (cZ, .boolean)]) [0, 1] rfl
          exact W.iret (v := (nu a)) hx hb hr (fun t ht hW => ⟨⟨_, 0, rfl, Or.inr (Or.inr ⟨a, 0, rfl, ha, rfl, by decide, rfl, rfl⟩), ⟨by rw [ht]; exact hP9, va_K.moved hW.alike hK9, hD9⟩⟩, hS.F ht⟩) hS.2.2 d_Mo_programme_86
        by_cases hs1 : b = 1
        · subst hs1
          refine lv_tableIn (tgt := 87) hx hb d_Mo_programme_41 (by decide) (by decide) rfl rfl ?_
          refine lv_aload_n hx hb d_Mo_programme_87 rfl (lv_at hl 0 rfl) ?_
          refine va_get (D := D) (ci := 13) (v := .ref (r 21)) (C := R_Mo) (T := F_Mo) (N := 54) hx hb hts i_Mo hown hK hP 0 rfl rfl 21 (by decide) (hts _ wd_1109) (fun _ h9 => h9) rfl d_Mo_programme_88 ?_
          refine lv_iload_n hx hb d_Mo_programme_91 rfl (lv_at hl 1 rfl) ?_
          refine z_iald hx hb hK hP 2 0 rfl rfl a rfl (by omega) (by omega) d_Mo_programme_92 ?_
          have hP9 := hP.sub (ws' := [(h, .inr (13, mO r 0 si le lv (nI ng) pn pl rs)), (r 20, .inl (cI, 4, .inl nu)), (r 21, .inl (cI, 4, .inl pi)), (r 22, .inl (cI, 4, .inl vs)), (r 23, .inl (cI, 4, .inl cp)), (r 24, .inl (cI, 4, .inl sc)), (r 25, .inl (cZ, 4, .inl aw)), (r 27, .inl (cI, 4, .inl wt))]) [0, 1, 2, 3, 4, 5, 6, 7] rfl
          have hD9 := hD.sub (ws' := [(h, .inr (13, mO r 0 si le lv (nI ng) pn pl rs)), (r 20, .inl (cI, 4, .inl nu)), (r 21, .inl (cI, 4, .inl pi)), (r 22, .inl (cI, 4, .inl vs)), (r 23, .inl (cI, 4, .inl cp)), (r 24, .inl (cI, 4, .inl sc)), (r 25, .inl (cZ, 4, .inl aw)), (r 27, .inl (cI, 4, .inl wt))]) [0, 1, 2, 3, 4, 5, 6, 7] (by decide) rfl
          have hK9 := hK.sub (tys' := [(cI, .int), (cZ, .boolean)]) [0, 1] rfl
          exact W.iret (v := (pi a)) hx hb hr (fun t ht hW => ⟨⟨_, 0, rfl, Or.inr (Or.inr ⟨a, 1, rfl, ha, rfl, by decide, rfl, rfl⟩), ⟨by rw [ht]; exact hP9, va_K.moved hW.alike hK9, hD9⟩⟩, hS.F ht⟩) hS.2.2 d_Mo_programme_93
        by_cases hs2 : b = 2
        · subst hs2
          refine lv_tableIn (tgt := 94) hx hb d_Mo_programme_41 (by decide) (by decide) rfl rfl ?_
          refine lv_aload_n hx hb d_Mo_programme_94 rfl (lv_at hl 0 rfl) ?_
          refine va_get (D := D) (ci := 13) (v := .ref (r 22)) (C := R_Mo) (T := F_Mo) (N := 54) hx hb hts i_Mo hown hK hP 0 rfl rfl 22 (by decide) (hts _ wd_1110) (fun _ h9 => h9) rfl d_Mo_programme_95 ?_
          refine lv_iload_n hx hb d_Mo_programme_98 rfl (lv_at hl 1 rfl) ?_
          refine z_iald hx hb hK hP 3 0 rfl rfl a rfl (by omega) (by omega) d_Mo_programme_99 ?_
          have hP9 := hP.sub (ws' := [(h, .inr (13, mO r 0 si le lv (nI ng) pn pl rs)), (r 20, .inl (cI, 4, .inl nu)), (r 21, .inl (cI, 4, .inl pi)), (r 22, .inl (cI, 4, .inl vs)), (r 23, .inl (cI, 4, .inl cp)), (r 24, .inl (cI, 4, .inl sc)), (r 25, .inl (cZ, 4, .inl aw)), (r 27, .inl (cI, 4, .inl wt))]) [0, 1, 2, 3, 4, 5, 6, 7] rfl
          have hD9 := hD.sub (ws' := [(h, .inr (13, mO r 0 si le lv (nI ng) pn pl rs)), (r 20, .inl (cI, 4, .inl nu)), (r 21, .inl (cI, 4, .inl pi)), (r 22, .inl (cI, 4, .inl vs)), (r 23, .inl (cI, 4, .inl cp)), (r 24, .inl (cI, 4, .inl sc)), (r 25, .inl (cZ, 4, .inl aw)), (r 27, .inl (cI, 4, .inl wt))]) [0, 1, 2, 3, 4, 5, 6, 7] (by decide) rfl
          have hK9 := hK.sub (tys' := [(cI, .int), (cZ, .boolean)]) [0, 1] rfl
          exact W.iret (v := (vs a)) hx hb hr (fun t ht hW => ⟨⟨_, 0, rfl, Or.inr (Or.inr ⟨a, 2, rfl, ha, rfl, by decide, rfl, rfl⟩), ⟨by rw [ht]; exact hP9, va_K.moved hW.alike hK9, hD9⟩⟩, hS.F ht⟩) hS.2.2 d_Mo_programme_100
        by_cases hs3 : b = 3
        · subst hs3
          refine lv_tableIn (tgt := 101) hx hb d_Mo_programme_41 (by decide) (by decide) rfl rfl ?_
          refine lv_aload_n hx hb d_Mo_programme_101 rfl (lv_at hl 0 rfl) ?_
          refine va_get (D := D) (ci := 13) (v := .ref (r 22)) (C := R_Mo) (T := F_Mo) (N := 54) hx hb hts i_Mo hown hK hP 0 rfl rfl 22 (by decide) (hts _ wd_1110) (fun _ h9 => h9) rfl d_Mo_programme_102 ?_
          refine lv_iload_n hx hb d_Mo_programme_105 rfl (lv_at hl 1 rfl) ?_
          refine z_iald hx hb hK hP 3 0 rfl rfl a rfl (by omega) (by omega) d_Mo_programme_106 ?_
          refine lv_iconst (v := (-1)) hx hb d_Mo_programme_107 (by decide) ?_
          refine lv_icmp_ne (tgt := 115) hx hb d_Mo_programme_108 rfl (fun h108 => ?_) (fun h108 => ?_)
          · refine lv_aload_n hx hb d_Mo_programme_115 rfl (lv_at hl 0 rfl) ?_
            refine va_get (D := D) (ci := 13) (v := .ref (r 23)) (C := R_Mo) (T := F_Mo) (N := 54) hx hb hts i_Mo hown hK hP 0 rfl rfl 23 (by decide) (hts _ wd_1111) (fun _ h9 => h9) rfl d_Mo_programme_116 ?_
            refine lv_iload_n hx hb d_Mo_programme_119 rfl (lv_at hl 1 rfl) ?_
            refine z_iald hx hb hK hP 4 0 rfl rfl a rfl (by omega) (by omega) d_Mo_programme_120 ?_
            have hP9 := hP.sub (ws' := [(h, .inr (13, mO r 0 si le lv (nI ng) pn pl rs)), (r 20, .inl (cI, 4, .inl nu)), (r 21, .inl (cI, 4, .inl pi)), (r 22, .inl (cI, 4, .inl vs)), (r 23, .inl (cI, 4, .inl cp)), (r 24, .inl (cI, 4, .inl sc)), (r 25, .inl (cZ, 4, .inl aw)), (r 27, .inl (cI, 4, .inl wt))]) [0, 1, 2, 3, 4, 5, 6, 7] rfl
            have hD9 := hD.sub (ws' := [(h, .inr (13, mO r 0 si le lv (nI ng) pn pl rs)), (r 20, .inl (cI, 4, .inl nu)), (r 21, .inl (cI, 4, .inl pi)), (r 22, .inl (cI, 4, .inl vs)), (r 23, .inl (cI, 4, .inl cp)), (r 24, .inl (cI, 4, .inl sc)), (r 25, .inl (cZ, 4, .inl aw)), (r 27, .inl (cI, 4, .inl wt))]) [0, 1, 2, 3, 4, 5, 6, 7] (by decide) rfl
            have hK9 := hK.sub (tys' := [(cI, .int), (cZ, .boolean)]) [0, 1] rfl
            exact W.iret (v := (cp a)) hx hb hr (fun t ht hW => ⟨⟨_, 0, rfl, Or.inr (Or.inr ⟨a, 3, rfl, ha, rfl, by decide, rfl, (by first | exact (if_pos h108).symm | exact (if_neg h108).symm)⟩), ⟨by rw [ht]; exact hP9, va_K.moved hW.alike hK9, hD9⟩⟩, hS.F ht⟩) hS.2.2 d_Mo_programme_121
          · refine lv_iconst (v := (-1)) hx hb d_Mo_programme_111 (by decide) ?_
            refine lv_goto (tgt := 121) hx hb d_Mo_programme_112 rfl ?_
            have hP9 := hP.sub (ws' := [(h, .inr (13, mO r 0 si le lv (nI ng) pn pl rs)), (r 20, .inl (cI, 4, .inl nu)), (r 21, .inl (cI, 4, .inl pi)), (r 22, .inl (cI, 4, .inl vs)), (r 23, .inl (cI, 4, .inl cp)), (r 24, .inl (cI, 4, .inl sc)), (r 25, .inl (cZ, 4, .inl aw)), (r 27, .inl (cI, 4, .inl wt))]) [0, 1, 2, 3, 4, 5, 6, 7] rfl
            have hD9 := hD.sub (ws' := [(h, .inr (13, mO r 0 si le lv (nI ng) pn pl rs)), (r 20, .inl (cI, 4, .inl nu)), (r 21, .inl (cI, 4, .inl pi)), (r 22, .inl (cI, 4, .inl vs)), (r 23, .inl (cI, 4, .inl cp)), (r 24, .inl (cI, 4, .inl sc)), (r 25, .inl (cZ, 4, .inl aw)), (r 27, .inl (cI, 4, .inl wt))]) [0, 1, 2, 3, 4, 5, 6, 7] (by decide) rfl
            have hK9 := hK.sub (tys' := [(cI, .int), (cZ, .boolean)]) [0, 1] rfl
            exact W.iret (v := (-1)) hx hb hr (fun t ht hW => ⟨⟨_, 0, rfl, Or.inr (Or.inr ⟨a, 3, rfl, ha, rfl, by decide, rfl, (by first | exact (if_pos h108).symm | exact (if_neg h108).symm)⟩), ⟨by rw [ht]; exact hP9, va_K.moved hW.alike hK9, hD9⟩⟩, hS.F ht⟩) hS.2.2 d_Mo_programme_121
        by_cases hs4 : b = 4
        · subst hs4
          refine lv_tableIn (tgt := 122) hx hb d_Mo_programme_41 (by decide) (by decide) rfl rfl ?_
          refine lv_aload_n hx hb d_Mo_programme_122 rfl (lv_at hl 0 rfl) ?_
          refine va_get (D := D) (ci := 13) (v := .ref (r 24)) (C := R_Mo) (T := F_Mo) (N := 54) hx hb hts i_Mo hown hK hP 0 rfl rfl 24 (by decide) (hts _ wd_1112) (fun _ h9 => h9) rfl d_Mo_programme_123 ?_
          refine lv_iload_n hx hb d_Mo_programme_126 rfl (lv_at hl 1 rfl) ?_
          refine z_iald hx hb hK hP 5 0 rfl rfl a rfl (by omega) (by omega) d_Mo_programme_127 ?_
          have hP9 := hP.sub (ws' := [(h, .inr (13, mO r 0 si le lv (nI ng) pn pl rs)), (r 20, .inl (cI, 4, .inl nu)), (r 21, .inl (cI, 4, .inl pi)), (r 22, .inl (cI, 4, .inl vs)), (r 23, .inl (cI, 4, .inl cp)), (r 24, .inl (cI, 4, .inl sc)), (r 25, .inl (cZ, 4, .inl aw)), (r 27, .inl (cI, 4, .inl wt))]) [0, 1, 2, 3, 4, 5, 6, 7] rfl
          have hD9 := hD.sub (ws' := [(h, .inr (13, mO r 0 si le lv (nI ng) pn pl rs)), (r 20, .inl (cI, 4, .inl nu)), (r 21, .inl (cI, 4, .inl pi)), (r 22, .inl (cI, 4, .inl vs)), (r 23, .inl (cI, 4, .inl cp)), (r 24, .inl (cI, 4, .inl sc)), (r 25, .inl (cZ, 4, .inl aw)), (r 27, .inl (cI, 4, .inl wt))]) [0, 1, 2, 3, 4, 5, 6, 7] (by decide) rfl
          have hK9 := hK.sub (tys' := [(cI, .int), (cZ, .boolean)]) [0, 1] rfl
          exact W.iret (v := (sc a)) hx hb hr (fun t ht hW => ⟨⟨_, 0, rfl, Or.inr (Or.inr ⟨a, 4, rfl, ha, rfl, by decide, rfl, rfl⟩), ⟨by rw [ht]; exact hP9, va_K.moved hW.alike hK9, hD9⟩⟩, hS.F ht⟩) hS.2.2 d_Mo_programme_128
        by_cases hs5 : b = 5
        · subst hs5
          refine lv_tableIn (tgt := 129) hx hb d_Mo_programme_41 (by decide) (by decide) rfl rfl ?_
          refine lv_aload_n hx hb d_Mo_programme_129 rfl (lv_at hl 0 rfl) ?_
          refine va_get (D := D) (ci := 13) (v := .ref (r 25)) (C := R_Mo) (T := F_Mo) (N := 54) hx hb hts i_Mo hown hK hP 0 rfl rfl 25 (by decide) (hts _ wd_1113) (fun _ h9 => h9) rfl d_Mo_programme_130 ?_
          refine lv_iload_n hx hb d_Mo_programme_133 rfl (lv_at hl 1 rfl) ?_
          refine z_zald hx hb hK hP 6 1 rfl rfl a rfl (by omega) (by omega) d_Mo_programme_134 ?_
          refine lv_if_eq (tgt := 142) hx hb d_Mo_programme_135 rfl (fun h135 => ?_) (fun h135 => ?_)
          · refine lv_iconst (v := 0) hx hb d_Mo_programme_142 (by decide) ?_
            have hP9 := hP.sub (ws' := [(h, .inr (13, mO r 0 si le lv (nI ng) pn pl rs)), (r 20, .inl (cI, 4, .inl nu)), (r 21, .inl (cI, 4, .inl pi)), (r 22, .inl (cI, 4, .inl vs)), (r 23, .inl (cI, 4, .inl cp)), (r 24, .inl (cI, 4, .inl sc)), (r 25, .inl (cZ, 4, .inl aw)), (r 27, .inl (cI, 4, .inl wt))]) [0, 1, 2, 3, 4, 5, 6, 7] rfl
            have hD9 := hD.sub (ws' := [(h, .inr (13, mO r 0 si le lv (nI ng) pn pl rs)), (r 20, .inl (cI, 4, .inl nu)), (r 21, .inl (cI, 4, .inl pi)), (r 22, .inl (cI, 4, .inl vs)), (r 23, .inl (cI, 4, .inl cp)), (r 24, .inl (cI, 4, .inl sc)), (r 25, .inl (cZ, 4, .inl aw)), (r 27, .inl (cI, 4, .inl wt))]) [0, 1, 2, 3, 4, 5, 6, 7] (by decide) rfl
            have hK9 := hK.sub (tys' := [(cI, .int), (cZ, .boolean)]) [0, 1] rfl
            exact W.iret (v := 0) hx hb hr (fun t ht hW => ⟨⟨_, 0, rfl, Or.inr (Or.inr ⟨a, 5, rfl, ha, rfl, by decide, rfl, (by first | exact (if_pos h135).symm | exact (if_neg h135).symm)⟩), ⟨by rw [ht]; exact hP9, va_K.moved hW.alike hK9, hD9⟩⟩, hS.F ht⟩) hS.2.2 d_Mo_programme_143
          · refine lv_iconst (v := 1) hx hb d_Mo_programme_138 (by decide) ?_
            refine lv_goto (tgt := 143) hx hb d_Mo_programme_139 rfl ?_
            have hP9 := hP.sub (ws' := [(h, .inr (13, mO r 0 si le lv (nI ng) pn pl rs)), (r 20, .inl (cI, 4, .inl nu)), (r 21, .inl (cI, 4, .inl pi)), (r 22, .inl (cI, 4, .inl vs)), (r 23, .inl (cI, 4, .inl cp)), (r 24, .inl (cI, 4, .inl sc)), (r 25, .inl (cZ, 4, .inl aw)), (r 27, .inl (cI, 4, .inl wt))]) [0, 1, 2, 3, 4, 5, 6, 7] rfl
            have hD9 := hD.sub (ws' := [(h, .inr (13, mO r 0 si le lv (nI ng) pn pl rs)), (r 20, .inl (cI, 4, .inl nu)), (r 21, .inl (cI, 4, .inl pi)), (r 22, .inl (cI, 4, .inl vs)), (r 23, .inl (cI, 4, .inl cp)), (r 24, .inl (cI, 4, .inl sc)), (r 25, .inl (cZ, 4, .inl aw)), (r 27, .inl (cI, 4, .inl wt))]) [0, 1, 2, 3, 4, 5, 6, 7] (by decide) rfl
            have hK9 := hK.sub (tys' := [(cI, .int), (cZ, .boolean)]) [0, 1] rfl
            exact W.iret (v := 1) hx hb hr (fun t ht hW => ⟨⟨_, 0, rfl, Or.inr (Or.inr ⟨a, 5, rfl, ha, rfl, by decide, rfl, (by first | exact (if_pos h135).symm | exact (if_neg h135).symm)⟩), ⟨by rw [ht]; exact hP9, va_K.moved hW.alike hK9, hD9⟩⟩, hS.F ht⟩) hS.2.2 d_Mo_programme_143
        obtain rfl : b = 6 := by omega
        refine lv_tableOut (tgt := 144) hx hb d_Mo_programme_41 (by decide) rfl ?_
        refine lv_aload_n hx hb d_Mo_programme_144 rfl (lv_at hl 0 rfl) ?_
        refine va_get (D := D) (ci := 13) (v := .ref (r 27)) (C := R_Mo) (T := F_Mo) (N := 54) hx hb hts i_Mo hown hK hP 0 rfl rfl 27 (by decide) (hts _ wd_1115) (fun _ h9 => h9) rfl d_Mo_programme_145 ?_
        refine lv_iload_n hx hb d_Mo_programme_148 rfl (lv_at hl 1 rfl) ?_
        refine z_iald hx hb hK hP 7 0 rfl rfl a rfl (by omega) (by omega) d_Mo_programme_149 ?_
        have hP9 := hP.sub (ws' := [(h, .inr (13, mO r 0 si le lv (nI ng) pn pl rs)), (r 20, .inl (cI, 4, .inl nu)), (r 21, .inl (cI, 4, .inl pi)), (r 22, .inl (cI, 4, .inl vs)), (r 23, .inl (cI, 4, .inl cp)), (r 24, .inl (cI, 4, .inl sc)), (r 25, .inl (cZ, 4, .inl aw)), (r 27, .inl (cI, 4, .inl wt))]) [0, 1, 2, 3, 4, 5, 6, 7] rfl
        have hD9 := hD.sub (ws' := [(h, .inr (13, mO r 0 si le lv (nI ng) pn pl rs)), (r 20, .inl (cI, 4, .inl nu)), (r 21, .inl (cI, 4, .inl pi)), (r 22, .inl (cI, 4, .inl vs)), (r 23, .inl (cI, 4, .inl cp)), (r 24, .inl (cI, 4, .inl sc)), (r 25, .inl (cZ, 4, .inl aw)), (r 27, .inl (cI, 4, .inl wt))]) [0, 1, 2, 3, 4, 5, 6, 7] (by decide) rfl
        have hK9 := hK.sub (tys' := [(cI, .int), (cZ, .boolean)]) [0, 1] rfl
        exact W.iret (v := (wt a)) hx hb hr (fun t ht hW => ⟨⟨_, 0, rfl, Or.inr (Or.inr ⟨a, 6, rfl, ha, rfl, by decide, rfl, rfl⟩), ⟨by rw [ht]; exact hP9, va_K.moved hW.alike hK9, hD9⟩⟩, hS.F ht⟩) hS.2.2 d_Mo_programme_150
      · have h20 := pg_yes h20
        refine lv_iconst (v := 2) hx hb d_Mo_programme_23 (by decide) ?_
        refine lv_goto (tgt := 28) hx hb d_Mo_programme_24 rfl ?_
        refine va_put (D := D) (ci := 13) (v := .int 2) (ty := .int) (C := R_Mo) (T := F_Mo) (N := 54) hx hb hts i_Mo t_Mo t_Mo_ok n_Mo hown hK hP hD hS 0 rfl rfl 0 (by decide) (hts _ wd_1088) (fun _ h9 => h9) rfl (by decide +kernel) rfl rfl (Nat.le_of_ble_eq_true rfl) d_Mo_programme_28 (fun H locs hP hD hS => ?_)
        have hP : va_P D classes [(h, .inr (13, mO r 2 si le lv (nI ng) pn pl rs)), (r 20, .inl (cI, 4, .inl nu)), (r 21, .inl (cI, 4, .inl pi)), (r 22, .inl (cI, 4, .inl vs)), (r 23, .inl (cI, 4, .inl cp)), (r 24, .inl (cI, 4, .inl sc)), (r 25, .inl (cZ, 4, .inl aw)), (r 27, .inl (cI, 4, .inl wt))] H := hP
        have hD : va_D A [(h, .inr (13, mO r 2 si le lv (nI ng) pn pl rs)), (r 20, .inl (cI, 4, .inl nu)), (r 21, .inl (cI, 4, .inl pi)), (r 22, .inl (cI, 4, .inl vs)), (r 23, .inl (cI, 4, .inl cp)), (r 24, .inl (cI, 4, .inl sc)), (r 25, .inl (cZ, 4, .inl aw)), (r 27, .inl (cI, 4, .inl wt))] := hD
        refine lv_aload_n hx hb d_Mo_programme_31 rfl (lv_at hl 0 rfl) ?_
        refine va_get (D := D) (ci := 13) (v := .int 2) (C := R_Mo) (T := F_Mo) (N := 54) hx hb hts i_Mo hown hK hP 0 rfl rfl 0 (by decide) (hts _ wd_1088) (fun _ h9 => h9) rfl d_Mo_programme_32 ?_
        refine lv_if_le (tgt := 40) hx hb d_Mo_programme_35 rfl (fun h9 => absurd h9 (by decide)) (fun h35 => ?_)
        refine lv_iconst (v := 0) hx hb d_Mo_programme_38 (by decide) ?_
        have hP9 := hP.sub (ws' := [(h, .inr (13, mO r 2 si le lv (nI ng) pn pl rs)), (r 20, .inl (cI, 4, .inl nu)), (r 21, .inl (cI, 4, .inl pi)), (r 22, .inl (cI, 4, .inl vs)), (r 23, .inl (cI, 4, .inl cp)), (r 24, .inl (cI, 4, .inl sc)), (r 25, .inl (cZ, 4, .inl aw)), (r 27, .inl (cI, 4, .inl wt))]) [0, 1, 2, 3, 4, 5, 6, 7] rfl
        have hD9 := hD.sub (ws' := [(h, .inr (13, mO r 2 si le lv (nI ng) pn pl rs)), (r 20, .inl (cI, 4, .inl nu)), (r 21, .inl (cI, 4, .inl pi)), (r 22, .inl (cI, 4, .inl vs)), (r 23, .inl (cI, 4, .inl cp)), (r 24, .inl (cI, 4, .inl sc)), (r 25, .inl (cZ, 4, .inl aw)), (r 27, .inl (cI, 4, .inl wt))]) [0, 1, 2, 3, 4, 5, 6, 7] (by decide) rfl
        have hK9 := hK.sub (tys' := [(cI, .int), (cZ, .boolean)]) [0, 1] rfl
        exact W.iret (v := 0) hx hb hr (fun t ht hW => ⟨⟨_, 2, rfl, Or.inr (Or.inl ⟨hno, h20, rfl, rfl⟩), ⟨by rw [ht]; exact hP9, va_K.moved hW.alike hK9, hD9⟩⟩, hS.F ht⟩) hS.2.2 d_Mo_programme_39
    · refine lv_iconst (v := 1) hx hb d_Mo_programme_11 (by decide) ?_
      refine lv_goto (tgt := 28) hx hb d_Mo_programme_12 rfl ?_
      refine va_put (D := D) (ci := 13) (v := .int 1) (ty := .int) (C := R_Mo) (T := F_Mo) (N := 54) hx hb hts i_Mo t_Mo t_Mo_ok n_Mo hown hK hP hD hS 0 rfl rfl 0 (by decide) (hts _ wd_1088) (fun _ h9 => h9) rfl (by decide +kernel) rfl rfl (Nat.le_of_ble_eq_true rfl) d_Mo_programme_28 (fun H locs hP hD hS => ?_)
      have hP : va_P D classes [(h, .inr (13, mO r 1 si le lv (nI ng) pn pl rs)), (r 20, .inl (cI, 4, .inl nu)), (r 21, .inl (cI, 4, .inl pi)), (r 22, .inl (cI, 4, .inl vs)), (r 23, .inl (cI, 4, .inl cp)), (r 24, .inl (cI, 4, .inl sc)), (r 25, .inl (cZ, 4, .inl aw)), (r 27, .inl (cI, 4, .inl wt))] H := hP
      have hD : va_D A [(h, .inr (13, mO r 1 si le lv (nI ng) pn pl rs)), (r 20, .inl (cI, 4, .inl nu)), (r 21, .inl (cI, 4, .inl pi)), (r 22, .inl (cI, 4, .inl vs)), (r 23, .inl (cI, 4, .inl cp)), (r 24, .inl (cI, 4, .inl sc)), (r 25, .inl (cZ, 4, .inl aw)), (r 27, .inl (cI, 4, .inl wt))] := hD
      refine lv_aload_n hx hb d_Mo_programme_31 rfl (lv_at hl 0 rfl) ?_
      refine va_get (D := D) (ci := 13) (v := .int 1) (C := R_Mo) (T := F_Mo) (N := 54) hx hb hts i_Mo hown hK hP 0 rfl rfl 0 (by decide) (hts _ wd_1088) (fun _ h9 => h9) rfl d_Mo_programme_32 ?_
      refine lv_if_le (tgt := 40) hx hb d_Mo_programme_35 rfl (fun h9 => absurd h9 (by decide)) (fun h35 => ?_)
      refine lv_iconst (v := 0) hx hb d_Mo_programme_38 (by decide) ?_
      have hP9 := hP.sub (ws' := [(h, .inr (13, mO r 1 si le lv (nI ng) pn pl rs)), (r 20, .inl (cI, 4, .inl nu)), (r 21, .inl (cI, 4, .inl pi)), (r 22, .inl (cI, 4, .inl vs)), (r 23, .inl (cI, 4, .inl cp)), (r 24, .inl (cI, 4, .inl sc)), (r 25, .inl (cZ, 4, .inl aw)), (r 27, .inl (cI, 4, .inl wt))]) [0, 1, 2, 3, 4, 5, 6, 7] rfl
      have hD9 := hD.sub (ws' := [(h, .inr (13, mO r 1 si le lv (nI ng) pn pl rs)), (r 20, .inl (cI, 4, .inl nu)), (r 21, .inl (cI, 4, .inl pi)), (r 22, .inl (cI, 4, .inl vs)), (r 23, .inl (cI, 4, .inl cp)), (r 24, .inl (cI, 4, .inl sc)), (r 25, .inl (cZ, 4, .inl aw)), (r 27, .inl (cI, 4, .inl wt))]) [0, 1, 2, 3, 4, 5, 6, 7] (by decide) rfl
      have hK9 := hK.sub (tys' := [(cI, .int), (cZ, .boolean)]) [0, 1] rfl
      exact W.iret (v := 0) hx hb hr (fun t ht hW => ⟨⟨_, 1, rfl, Or.inl ⟨by first | exact Or.inl h2 | exact Or.inr (Int32.not_le.mp h8), rfl, rfl⟩, ⟨by rw [ht]; exact hP9, va_K.moved hW.alike hK9, hD9⟩⟩, hS.F ht⟩) hS.2.2 d_Mo_programme_39
set_option maxHeartbeats 4000000 in
set_option maxRecDepth 100000 in
theorem c_Mo_stream (l : Launch) (D : va_G) (sz : Nat) (cI : ClassId) (h : Nat) (r : Nat → Nat) (th si le lv pn pl rs : Int32) (ng : Nat) (sc ty sp : Nat → Int32) (ns : Nat → Nat) (i k0 : Int32) (hng : ng ≤ 4) (hns : ∀ k, k < ng → sc k = nI (ns k) ∧ ns k ≤ 4) : Met l y_Mo_stream [Cond.code y_Mo_stream b_Mo_stream 3 (some .int)] ({ frames := 1, cells := 0, slots := 0, locals := 21 }) (zM [.ref h, .int i, .int k0] D [(h, .inr (13, mO r th si le lv (nI ng) pn pl rs)), (r 24, .inl (cI, 4, .inl sc)), (r 28, .inl (cI, 16, .inl ty)), (r 29, .inl (cI, 16, .inl sp))] [(cI, .int)] sz) (va_Qi (fun r0 (u : Int32) => ((i < 0 ∨ ¬ i < nI ng) ∧ u = 1 ∧ r0 = 0) ∨ (∃ a9 : Nat, i = nI a9 ∧ a9 < ng ∧ u = 0 ∧ (((k0 < 0 ∨ ¬ k0 < nI (ns a9)) ∧ r0 = -1) ∨ (∃ b9 : Nat, k0 = nI b9 ∧ b9 < ns a9 ∧ r0 = ty (4 * a9 + b9) * 65536 + sp (4 * a9 + b9))))) (fun (u : Int32) t => zW D (va_A [(h, .inr (13, mO r th si le lv (nI ng) pn pl rs)), (r 24, .inl (cI, 4, .inl sc)), (r 28, .inl (cI, 16, .inl ty)), (r 29, .inl (cI, 16, .inl sp))] sz) [(h, .inr (13, mO r u si le lv (nI ng) pn pl rs)), (r 24, .inl (cI, 4, .inl sc)), (r 28, .inl (cI, 16, .inl ty)), (r 29, .inl (cI, 16, .inl sp))] [(cI, .int)] t) (va_A [(h, .inr (13, mO r th si le lv (nI ng) pn pl rs)), (r 24, .inl (cI, 4, .inl sc)), (r 28, .inl (cI, 16, .inl ty)), (r 29, .inl (cI, 16, .inl sp))] sz)) 0 0 (va_A [(h, .inr (13, mO r th si le lv (nI ng) pn pl rs)), (r 24, .inl (cI, 4, .inl sc)), (r 28, .inl (cI, 16, .inl ty)), (r 29, .inl (cI, 16, .inl sp))] sz) := by
  refine Met.ofW (cc := b_Mo_stream) (maxL := 3) (ret := (some .int)) (by decide) rfl ?_
  intro p e s m args below meth cd s₁ Bd hml hv
  obtain ⟨rfl, hsz, hP, hK, hN, hD0⟩ := hv
  have hx := Bd.exec
  have hb := Bd.bytes
  have hr := Bd.returns
  have hts := hN.use (a := ([.ref h, .int i, .int k0]).toArray)
  have hown : s.vm.findClass R_Mo = some m.cls := findClass_of_methodNamed Bd.named
  have hlocks := Bd.notSynchronized
  subst hsz
  have hD := hD0.self (sz := s.heap.size)
  clear hD0
  have hA : ∀ q : Nat, s.heap.size ≤ q → va_A [(h, .inr (13, mO r th si le lv (nI ng) pn pl rs)), (r 24, .inl (cI, 4, .inl sc)), (r 28, .inl (cI, 16, .inl ty)), (r 29, .inl (cI, 16, .inl sp))] s.heap.size q := fun q h => Or.inr h
  have hS : va_S (va_A [(h, .inr (13, mO r th si le lv (nI ng) pn pl rs)), (r 24, .inl (cI, 4, .inl sc)), (r 28, .inl (cI, 16, .inl ty)), (r 29, .inl (cI, 16, .inl sp))] s.heap.size) s.heap s.heap [] := va_S.rf
  generalize hAe : va_A [(h, .inr (13, mO r th si le lv (nI ng) pn pl rs)), (r 24, .inl (cI, 4, .inl sc)), (r 28, .inl (cI, 16, .inl ty)), (r 29, .inl (cI, 16, .inl sp))] s.heap.size = A at hD hA hS ⊢
  have hP : va_P D classes [(h, .inr (13, mO r th si le lv (nI ng) pn pl rs)), (r 24, .inl (cI, 4, .inl sc)), (r 28, .inl (cI, 16, .inl ty)), (r 29, .inl (cI, 16, .inl sp))] s.heap := hP
  have hl := lv_entry ([.ref h, .int i, .int k0]) (n := 3) (Nat.le_of_ble_eq_true rfl)
  rw [lg_entry_eq]
  generalize (lg_sl ([.ref h, .int i, .int k0]) ++ List.replicate (3 - (lg_sl ([.ref h, .int i, .int k0])).length) Slot.unset).toArray = ls at hl ⊢
  have hl : lv_has ls 3 [(0, .ref h), (1, .int i), (2, .int k0)] := hl
  refine lv_aload_n hx hb d_Mo_stream_0 rfl (lv_at hl 0 rfl) ?_
  refine lv_aload_n hx hb d_Mo_stream_1 rfl (lv_at hl 0 rfl) ?_
  refine lv_iload_n hx hb d_Mo_stream_2 rfl (lv_at hl 1 rfl) ?_
  have hPc := hP.sub (ws' := [(h, .inr (13, mO r th si le lv (nI ng) pn pl rs))]) [0] rfl
  have hKc := hK.sub (tys' := []) [] rfl
  refine z_ci (va_runV (As := [.int i]) (rest := [.ref h]) ⟨hx, hb, hml, hown, hts⟩ (c_Mo_noProgramme l D cI h r th si le lv pn pl rs ng i ) (z_cV hN wd_1400 wd_67 wd_1397 hd_Mo_noProgramme rfl rfl ⟨Nat.le_of_ble_eq_true rfl, Nat.le_of_ble_eq_true rfl⟩ wd_1399 wd_52) (z_preV (va_recv (ci := 13) (q0 := 0) hK hP rfl rfl) hPc hKc hN) rfl rfl hl.1 rfl (lv_room (Nat.le_of_ble_eq_true rfl)) d_Mo_stream_3 ⟨Nat.le_of_ble_eq_true rfl, Nat.le_of_ble_eq_true rfl⟩) (fun r3 e3 => ?_)
  subst e3
  refine lv_if_eq (tgt := 13) hx hb d_Mo_stream_6 rfl (fun h6 => ?_) (fun h6 => ?_)
  · obtain ⟨a, ha, hae⟩ := pg_no h6 hng
    subst hae
    have hnj := hns a ha
    refine lv_iconst (v := 0) hx hb d_Mo_stream_13 (by decide) ?_
    refine va_put (D := D) (ci := 13) (v := .int 0) (ty := .int) (C := R_Mo) (T := F_Mo) (N := 54) hx hb hts i_Mo t_Mo t_Mo_ok n_Mo hown hK hP hD hS 0 rfl rfl 0 (by decide) (hts _ wd_1088) (fun _ h9 => h9) rfl (by decide +kernel) rfl rfl (Nat.le_of_ble_eq_true rfl) d_Mo_stream_14 (fun H locs hP hD hS => ?_)
    have hP : va_P D classes [(h, .inr (13, mO r 0 si le lv (nI ng) pn pl rs)), (r 24, .inl (cI, 4, .inl sc)), (r 28, .inl (cI, 16, .inl ty)), (r 29, .inl (cI, 16, .inl sp))] H := hP
    have hD : va_D A [(h, .inr (13, mO r 0 si le lv (nI ng) pn pl rs)), (r 24, .inl (cI, 4, .inl sc)), (r 28, .inl (cI, 16, .inl ty)), (r 29, .inl (cI, 16, .inl sp))] := hD
    refine lv_aload_n hx hb d_Mo_stream_17 rfl (lv_at hl 0 rfl) ?_
    refine va_get (D := D) (ci := 13) (v := .int 0) (C := R_Mo) (T := F_Mo) (N := 54) hx hb hts i_Mo hown hK hP 0 rfl rfl 0 (by decide) (hts _ wd_1088) (fun _ h9 => h9) rfl d_Mo_stream_18 ?_
    refine lv_if_le (tgt := 28) hx hb d_Mo_stream_21 rfl (fun h21 => ?_) (fun h9 => absurd h9 (by decide))
    refine lv_iload_n hx hb d_Mo_stream_28 rfl (lv_at hl 2 rfl) ?_
    refine lv_if_lt (tgt := 42) hx hb d_Mo_stream_29 rfl (fun h29 => ?_) (fun h29 => ?_)
    · refine lv_iconst (v := (-1)) hx hb d_Mo_stream_42 (by decide) ?_
      refine lv_goto (tgt := 71) hx hb d_Mo_stream_43 rfl ?_
      have hP9 := hP.sub (ws' := [(h, .inr (13, mO r 0 si le lv (nI ng) pn pl rs)), (r 24, .inl (cI, 4, .inl sc)), (r 28, .inl (cI, 16, .inl ty)), (r 29, .inl (cI, 16, .inl sp))]) [0, 1, 2, 3] rfl
      have hD9 := hD.sub (ws' := [(h, .inr (13, mO r 0 si le lv (nI ng) pn pl rs)), (r 24, .inl (cI, 4, .inl sc)), (r 28, .inl (cI, 16, .inl ty)), (r 29, .inl (cI, 16, .inl sp))]) [0, 1, 2, 3] (by decide) rfl
      have hK9 := hK.sub (tys' := [(cI, .int)]) [0] rfl
      exact W.iret (v := (-1)) hx hb hr (fun t ht hW => ⟨⟨_, 0, rfl, Or.inr ⟨a, rfl, ha, rfl, Or.inl ⟨by first | exact Or.inl h29 | exact Or.inr h39, rfl⟩⟩, ⟨by rw [ht]; exact hP9, va_K.moved hW.alike hK9, hD9⟩⟩, hS.F ht⟩) hS.2.2 d_Mo_stream_71
    · refine lv_iload_n hx hb d_Mo_stream_32 rfl (lv_at hl 2 rfl) ?_
      refine lv_aload_n hx hb d_Mo_stream_33 rfl (lv_at hl 0 rfl) ?_
      refine va_get (D := D) (ci := 13) (v := .ref (r 24)) (C := R_Mo) (T := F_Mo) (N := 54) hx hb hts i_Mo hown hK hP 0 rfl rfl 24 (by decide) (hts _ wd_1112) (fun _ h9 => h9) rfl d_Mo_stream_34 ?_
      refine lv_iload_n hx hb d_Mo_stream_37 rfl (lv_at hl 1 rfl) ?_
      refine z_iald hx hb hK hP 1 0 rfl rfl a rfl (by omega) (by omega) d_Mo_stream_38 ?_
      refine z_topi (w := nI (ns a)) hnj.1 ?_
      refine lv_icmp_lt (tgt := 46) hx hb d_Mo_stream_39 rfl (fun h39 => ?_) (fun h39 => ?_)
      · obtain ⟨b, hb9, hbe⟩ := z_in h29 h39 (by omega)
        subst hbe
        refine lv_aload_n hx hb d_Mo_stream_46 rfl (lv_at hl 0 rfl) ?_
        refine va_get (D := D) (ci := 13) (v := .ref (r 28)) (C := R_Mo) (T := F_Mo) (N := 54) hx hb hts i_Mo hown hK hP 0 rfl rfl 28 (by decide) (hts _ wd_1116) (fun _ h9 => h9) rfl d_Mo_stream_47 ?_
        refine lv_iconst (v := 4) hx hb d_Mo_stream_50 (by decide) ?_
        refine lv_iload_n hx hb d_Mo_stream_51 rfl (lv_at hl 1 rfl) ?_
        refine lv_imul hx hb d_Mo_stream_52 ?_
        refine z_topi (w := nI (4 * a)) (pk_mul 4 _) ?_
        refine lv_iload_n hx hb d_Mo_stream_53 rfl (lv_at hl 2 rfl) ?_
        refine lv_iadd hx hb d_Mo_stream_54 ?_
        refine z_topi (w := nI (4 * a + b)) (nI_add _ _) ?_
        refine z_iald hx hb hK hP 2 0 rfl rfl (4 * a + b) rfl (by omega) (by omega) d_Mo_stream_55 ?_
        refine lv_ldcw hx hb hown (hts _ wd_1405) d_Mo_stream_56 ?_
        refine lv_imul hx hb d_Mo_stream_59 ?_
        refine lv_aload_n hx hb d_Mo_stream_60 rfl (lv_at hl 0 rfl) ?_
        refine va_get (D := D) (ci := 13) (v := .ref (r 29)) (C := R_Mo) (T := F_Mo) (N := 54) hx hb hts i_Mo hown hK hP 0 rfl rfl 29 (by decide) (hts _ wd_1117) (fun _ h9 => h9) rfl d_Mo_stream_61 ?_
        refine lv_iconst (v := 4) hx hb d_Mo_stream_64 (by decide) ?_
        refine lv_iload_n hx hb d_Mo_stream_65 rfl (lv_at hl 1 rfl) ?_
        refine lv_imul hx hb d_Mo_stream_66 ?_
        refine z_topi (w := nI (4 * a)) (pk_mul 4 _) ?_
        refine lv_iload_n hx hb d_Mo_stream_67 rfl (lv_at hl 2 rfl) ?_
        refine lv_iadd hx hb d_Mo_stream_68 ?_
        refine z_topi (w := nI (4 * a + b)) (nI_add _ _) ?_
        refine z_iald hx hb hK hP 3 0 rfl rfl (4 * a + b) rfl (by omega) (by omega) d_Mo_stream_69 ?_
        refine lv_iadd hx hb d_Mo_stream_70 ?_
        have hP9 := hP.sub (ws' := [(h, .inr (13, mO r 0 si le lv (nI ng) pn pl rs)), (r 24, .inl (cI, 4, .inl sc)), (r 28, .inl (cI, 16, .inl ty)), (r 29, .inl (cI, 16, .inl sp))]) [0, 1, 2, 3] rfl
        have hD9 := hD.sub (ws' := [(h, .inr (13, mO r 0 si le lv (nI ng) pn pl rs)), (r 24, .inl (cI, 4, .inl sc)), (r 28, .inl (cI, 16, .inl ty)), (r 29, .inl (cI, 16, .inl sp))]) [0, 1, 2, 3] (by decide) rfl
        have hK9 := hK.sub (tys' := [(cI, .int)]) [0] rfl
        exact W.iret (v := (((ty (4 * a + b)) * 65536) + (sp (4 * a + b)))) hx hb hr (fun t ht hW => ⟨⟨_, 0, rfl, Or.inr ⟨a, rfl, ha, rfl, Or.inr ⟨b, rfl, hb9, rfl⟩⟩, ⟨by rw [ht]; exact hP9, va_K.moved hW.alike hK9, hD9⟩⟩, hS.F ht⟩) hS.2.2 d_Mo_stream_71
      · refine lv_iconst (v := (-1)) hx hb d_Mo_stream_42 (by decide) ?_
        refine lv_goto (tgt := 71) hx hb d_Mo_stream_43 rfl ?_
        have hP9 := hP.sub (ws' := [(h, .inr (13, mO r 0 si le lv (nI ng) pn pl rs)), (r 24, .inl (cI, 4, .inl sc)), (r 28, .inl (cI, 16, .inl ty)), (r 29, .inl (cI, 16, .inl sp))]) [0, 1, 2, 3] rfl
        have hD9 := hD.sub (ws' := [(h, .inr (13, mO r 0 si le lv (nI ng) pn pl rs)), (r 24, .inl (cI, 4, .inl sc)), (r 28, .inl (cI, 16, .inl ty)), (r 29, .inl (cI, 16, .inl sp))]) [0, 1, 2, 3] (by decide) rfl
        have hK9 := hK.sub (tys' := [(cI, .int)]) [0] rfl
        exact W.iret (v := (-1)) hx hb hr (fun t ht hW => ⟨⟨_, 0, rfl, Or.inr ⟨a, rfl, ha, rfl, Or.inl ⟨by first | exact Or.inl h29 | exact Or.inr h39, rfl⟩⟩, ⟨by rw [ht]; exact hP9, va_K.moved hW.alike hK9, hD9⟩⟩, hS.F ht⟩) hS.2.2 d_Mo_stream_71
  · have h6 := pg_yes h6
    refine lv_iconst (v := 1) hx hb d_Mo_stream_9 (by decide) ?_
    refine lv_goto (tgt := 14) hx hb d_Mo_stream_10 rfl ?_
    refine va_put (D := D) (ci := 13) (v := .int 1) (ty := .int) (C := R_Mo) (T := F_Mo) (N := 54) hx hb hts i_Mo t_Mo t_Mo_ok n_Mo hown hK hP hD hS 0 rfl rfl 0 (by decide) (hts _ wd_1088) (fun _ h9 => h9) rfl (by decide +kernel) rfl rfl (Nat.le_of_ble_eq_true rfl) d_Mo_stream_14 (fun H locs hP hD hS => ?_)
    have hP : va_P D classes [(h, .inr (13, mO r 1 si le lv (nI ng) pn pl rs)), (r 24, .inl (cI, 4, .inl sc)), (r 28, .inl (cI, 16, .inl ty)), (r 29, .inl (cI, 16, .inl sp))] H := hP
    have hD : va_D A [(h, .inr (13, mO r 1 si le lv (nI ng) pn pl rs)), (r 24, .inl (cI, 4, .inl sc)), (r 28, .inl (cI, 16, .inl ty)), (r 29, .inl (cI, 16, .inl sp))] := hD
    refine lv_aload_n hx hb d_Mo_stream_17 rfl (lv_at hl 0 rfl) ?_
    refine va_get (D := D) (ci := 13) (v := .int 1) (C := R_Mo) (T := F_Mo) (N := 54) hx hb hts i_Mo hown hK hP 0 rfl rfl 0 (by decide) (hts _ wd_1088) (fun _ h9 => h9) rfl d_Mo_stream_18 ?_
    refine lv_if_le (tgt := 28) hx hb d_Mo_stream_21 rfl (fun h9 => absurd h9 (by decide)) (fun h21 => ?_)
    refine lv_iconst (v := 0) hx hb d_Mo_stream_24 (by decide) ?_
    refine lv_goto (tgt := 71) hx hb d_Mo_stream_25 rfl ?_
    have hP9 := hP.sub (ws' := [(h, .inr (13, mO r 1 si le lv (nI ng) pn pl rs)), (r 24, .inl (cI, 4, .inl sc)), (r 28, .inl (cI, 16, .inl ty)), (r 29, .inl (cI, 16, .inl sp))]) [0, 1, 2, 3] rfl
    have hD9 := hD.sub (ws' := [(h, .inr (13, mO r 1 si le lv (nI ng) pn pl rs)), (r 24, .inl (cI, 4, .inl sc)), (r 28, .inl (cI, 16, .inl ty)), (r 29, .inl (cI, 16, .inl sp))]) [0, 1, 2, 3] (by decide) rfl
    have hK9 := hK.sub (tys' := [(cI, .int)]) [0] rfl
    exact W.iret (v := 0) hx hb hr (fun t ht hW => ⟨⟨_, 1, rfl, Or.inl ⟨h6, rfl, rfl⟩, ⟨by rw [ht]; exact hP9, va_K.moved hW.alike hK9, hD9⟩⟩, hS.F ht⟩) hS.2.2 d_Mo_stream_71
set_option maxHeartbeats 4000000 in
set_option maxRecDepth 100000 in
theorem c_Mo_now (l : Launch) (D : va_G) (sz : Nat) (cJ : ClassId) (h : Nat) (r : Nat → Nat) (th si le lv pn pl rs : Int32) (ng : Nat) (nw : Nat → Int64) (i : Int32) (hng : ng ≤ 4) : Met l y_Mo_now [Cond.code y_Mo_now b_Mo_now 2 (some .long)] ({ frames := 1, cells := 0, slots := 0, locals := 21 }) (zM [.ref h, .int i] D [(h, .inr (13, mO r th si le lv (nI ng) pn pl rs)), (r 26, .inl (cJ, 4, .inr (.inl nw)))] [(cJ, .long)] sz) (va_Ql (fun r0 (u : Int32) => ((i < 0 ∨ ¬ i < nI ng) ∧ u = 1 ∧ r0 = 0) ∨ (∃ a9 : Nat, i = nI a9 ∧ a9 < ng ∧ u = 0 ∧ r0 = nw a9)) (fun (u : Int32) t => zW D (va_A [(h, .inr (13, mO r th si le lv (nI ng) pn pl rs)), (r 26, .inl (cJ, 4, .inr (.inl nw)))] sz) [(h, .inr (13, mO r u si le lv (nI ng) pn pl rs)), (r 26, .inl (cJ, 4, .inr (.inl nw)))] [(cJ, .long)] t) (va_A [(h, .inr (13, mO r th si le lv (nI ng) pn pl rs)), (r 26, .inl (cJ, 4, .inr (.inl nw)))] sz)) 0 0 (va_A [(h, .inr (13, mO r th si le lv (nI ng) pn pl rs)), (r 26, .inl (cJ, 4, .inr (.inl nw)))] sz) := by
  refine Met.ofW (cc := b_Mo_now) (maxL := 2) (ret := (some .long)) (by decide) rfl ?_
  intro p e s m args below meth cd s₁ Bd hml hv
  obtain ⟨rfl, hsz, hP, hK, hN, hD0⟩ := hv
  have hx := Bd.exec
  have hb := Bd.bytes
  have hr := Bd.returns
  have hts := hN.use (a := ([.ref h, .int i]).toArray)
  have hown : s.vm.findClass R_Mo = some m.cls := findClass_of_methodNamed Bd.named
  have hlocks := Bd.notSynchronized
  subst hsz
  have hD := hD0.self (sz := s.heap.size)
  clear hD0
  have hA : ∀ q : Nat, s.heap.size ≤ q → va_A [(h, .inr (13, mO r th si le lv (nI ng) pn pl rs)), (r 26, .inl (cJ, 4, .inr (.inl nw)))] s.heap.size q := fun q h => Or.inr h
  have hS : va_S (va_A [(h, .inr (13, mO r th si le lv (nI ng) pn pl rs)), (r 26, .inl (cJ, 4, .inr (.inl nw)))] s.heap.size) s.heap s.heap [] := va_S.rf
  generalize hAe : va_A [(h, .inr (13, mO r th si le lv (nI ng) pn pl rs)), (r 26, .inl (cJ, 4, .inr (.inl nw)))] s.heap.size = A at hD hA hS ⊢
  have hP : va_P D classes [(h, .inr (13, mO r th si le lv (nI ng) pn pl rs)), (r 26, .inl (cJ, 4, .inr (.inl nw)))] s.heap := hP
  have hl := lv_entry ([.ref h, .int i]) (n := 2) (Nat.le_of_ble_eq_true rfl)
  rw [lg_entry_eq]
  generalize (lg_sl ([.ref h, .int i]) ++ List.replicate (2 - (lg_sl ([.ref h, .int i])).length) Slot.unset).toArray = ls at hl ⊢
  have hl : lv_has ls 2 [(0, .ref h), (1, .int i)] := hl
  refine lv_aload_n hx hb d_Mo_now_0 rfl (lv_at hl 0 rfl) ?_
  refine lv_aload_n hx hb d_Mo_now_1 rfl (lv_at hl 0 rfl) ?_
  refine lv_iload_n hx hb d_Mo_now_2 rfl (lv_at hl 1 rfl) ?_
  have hPc := hP.sub (ws' := [(h, .inr (13, mO r th si le lv (nI ng) pn pl rs))]) [0] rfl
  have hKc := hK.sub (tys' := []) [] rfl
  refine z_ci (va_runV (As := [.int i]) (rest := [.ref h]) ⟨hx, hb, hml, hown, hts⟩ (c_Mo_noProgramme l D cJ h r th si le lv pn pl rs ng i ) (z_cV hN wd_1400 wd_67 wd_1397 hd_Mo_noProgramme rfl rfl ⟨Nat.le_of_ble_eq_true rfl, Nat.le_of_ble_eq_true rfl⟩ wd_1399 wd_52) (z_preV (va_recv (ci := 13) (q0 := 0) hK hP rfl rfl) hPc hKc hN) rfl rfl hl.1 rfl (lv_room (Nat.le_of_ble_eq_true rfl)) d_Mo_now_3 ⟨Nat.le_of_ble_eq_true rfl, Nat.le_of_ble_eq_true rfl⟩) (fun r3 e3 => ?_)
  subst e3
  refine lv_if_eq (tgt := 13) hx hb d_Mo_now_6 rfl (fun h6 => ?_) (fun h6 => ?_)
  · obtain ⟨a, ha, hae⟩ := pg_no h6 hng
    subst hae
    refine lv_iconst (v := 0) hx hb d_Mo_now_13 (by decide) ?_
    refine va_put (D := D) (ci := 13) (v := .int 0) (ty := .int) (C := R_Mo) (T := F_Mo) (N := 54) hx hb hts i_Mo t_Mo t_Mo_ok n_Mo hown hK hP hD hS 0 rfl rfl 0 (by decide) (hts _ wd_1088) (fun _ h9 => h9) rfl (by decide +kernel) rfl rfl (Nat.le_of_ble_eq_true rfl) d_Mo_now_14 (fun H locs hP hD hS => ?_)
    have hP : va_P D classes [(h, .inr (13, mO r 0 si le lv (nI ng) pn pl rs)), (r 26, .inl (cJ, 4, .inr (.inl nw)))] H := hP
    have hD : va_D A [(h, .inr (13, mO r 0 si le lv (nI ng) pn pl rs)), (r 26, .inl (cJ, 4, .inr (.inl nw)))] := hD
    refine lv_aload_n hx hb d_Mo_now_17 rfl (lv_at hl 0 rfl) ?_
    refine va_get (D := D) (ci := 13) (v := .int 0) (C := R_Mo) (T := F_Mo) (N := 54) hx hb hts i_Mo hown hK hP 0 rfl rfl 0 (by decide) (hts _ wd_1088) (fun _ h9 => h9) rfl d_Mo_now_18 ?_
    refine lv_if_le (tgt := 28) hx hb d_Mo_now_21 rfl (fun h21 => ?_) (fun h9 => absurd h9 (by decide))
    refine lv_aload_n hx hb d_Mo_now_28 rfl (lv_at hl 0 rfl) ?_
    refine va_get (D := D) (ci := 13) (v := .ref (r 26)) (C := R_Mo) (T := F_Mo) (N := 54) hx hb hts i_Mo hown hK hP 0 rfl rfl 26 (by decide) (hts _ wd_1114) (fun _ h9 => h9) rfl d_Mo_now_29 ?_
    refine lv_iload_n hx hb d_Mo_now_32 rfl (lv_at hl 1 rfl) ?_
    refine z_lald hx hb hK hP 1 0 rfl rfl a rfl (by omega) (by omega) d_Mo_now_33 ?_
    have hP9 := hP.sub (ws' := [(h, .inr (13, mO r 0 si le lv (nI ng) pn pl rs)), (r 26, .inl (cJ, 4, .inr (.inl nw)))]) [0, 1] rfl
    have hD9 := hD.sub (ws' := [(h, .inr (13, mO r 0 si le lv (nI ng) pn pl rs)), (r 26, .inl (cJ, 4, .inr (.inl nw)))]) [0, 1] (by decide) rfl
    have hK9 := hK.sub (tys' := [(cJ, .long)]) [0] rfl
    exact W.lret (v := (nw a)) hx hb hr (fun t ht hW => ⟨⟨_, 0, rfl, Or.inr ⟨a, rfl, ha, rfl, rfl⟩, ⟨by rw [ht]; exact hP9, va_K.moved hW.alike hK9, hD9⟩⟩, hS.F ht⟩) hS.2.2 d_Mo_now_34
  · have h6 := pg_yes h6
    refine lv_iconst (v := 1) hx hb d_Mo_now_9 (by decide) ?_
    refine lv_goto (tgt := 14) hx hb d_Mo_now_10 rfl ?_
    refine va_put (D := D) (ci := 13) (v := .int 1) (ty := .int) (C := R_Mo) (T := F_Mo) (N := 54) hx hb hts i_Mo t_Mo t_Mo_ok n_Mo hown hK hP hD hS 0 rfl rfl 0 (by decide) (hts _ wd_1088) (fun _ h9 => h9) rfl (by decide +kernel) rfl rfl (Nat.le_of_ble_eq_true rfl) d_Mo_now_14 (fun H locs hP hD hS => ?_)
    have hP : va_P D classes [(h, .inr (13, mO r 1 si le lv (nI ng) pn pl rs)), (r 26, .inl (cJ, 4, .inr (.inl nw)))] H := hP
    have hD : va_D A [(h, .inr (13, mO r 1 si le lv (nI ng) pn pl rs)), (r 26, .inl (cJ, 4, .inr (.inl nw)))] := hD
    refine lv_aload_n hx hb d_Mo_now_17 rfl (lv_at hl 0 rfl) ?_
    refine va_get (D := D) (ci := 13) (v := .int 1) (C := R_Mo) (T := F_Mo) (N := 54) hx hb hts i_Mo hown hK hP 0 rfl rfl 0 (by decide) (hts _ wd_1088) (fun _ h9 => h9) rfl d_Mo_now_18 ?_
    refine lv_if_le (tgt := 28) hx hb d_Mo_now_21 rfl (fun h9 => absurd h9 (by decide)) (fun h21 => ?_)
    refine lv_lconst (v := 0) hx hb d_Mo_now_24 (by decide) ?_
    refine lv_goto (tgt := 34) hx hb d_Mo_now_25 rfl ?_
    have hP9 := hP.sub (ws' := [(h, .inr (13, mO r 1 si le lv (nI ng) pn pl rs)), (r 26, .inl (cJ, 4, .inr (.inl nw)))]) [0, 1] rfl
    have hD9 := hD.sub (ws' := [(h, .inr (13, mO r 1 si le lv (nI ng) pn pl rs)), (r 26, .inl (cJ, 4, .inr (.inl nw)))]) [0, 1] (by decide) rfl
    have hK9 := hK.sub (tys' := [(cJ, .long)]) [0] rfl
    exact W.lret (v := 0) hx hb hr (fun t ht hW => ⟨⟨_, 1, rfl, Or.inl ⟨h6, rfl, rfl⟩, ⟨by rw [ht]; exact hP9, va_K.moved hW.alike hK9, hD9⟩⟩, hS.F ht⟩) hS.2.2 d_Mo_now_34
set_option maxHeartbeats 4000000 in
set_option maxRecDepth 100000 in
theorem c_Mo_order (l : Launch) (D : va_G) (sz : Nat) (cI : ClassId) (h : Nat) (r : Nat → Nat) (th si le lv pn pl rs : Int32) (cJ cZ : ClassId) (ng : Nat) (wt on oa : Nat → Int32) (ot ol : Nat → Int64) (nw : Nat → Nat) (i k0 wh : Int32) (hng : ng ≤ 4) (hnw : ∀ k, k < ng → wt k = nI (nw k) ∧ nw k ≤ 6) : Met l y_Mo_order [Cond.code y_Mo_order b_Mo_order 5 (some .long)] ({ frames := 1, cells := 0, slots := 0, locals := 21 }) (zM [.ref h, .int i, .int k0, .int wh] D [(h, .inr (13, mO r th si le lv (nI ng) pn pl rs)), (r 27, .inl (cI, 4, .inl wt)), (r 30, .inl (cJ, 24, .inr (.inl ot))), (r 31, .inl (cI, 24, .inl on)), (r 32, .inl (cZ, 24, .inl oa)), (r 33, .inl (cJ, 24, .inr (.inl ol)))] [(cI, .int), (cJ, .long), (cZ, .boolean)] sz) (va_Ql (fun r0 (u : Int32) => ((wh < 0 ∨ 3 < wh) ∧ u = 1 ∧ r0 = 0) ∨ (¬ (wh < 0 ∨ 3 < wh) ∧ (i < 0 ∨ ¬ i < nI ng) ∧ u = 2 ∧ r0 = 0) ∨ (∃ a9 c9 : Nat, i = nI a9 ∧ a9 < ng ∧ wh = nI c9 ∧ c9 ≤ 3 ∧ u = 0 ∧ (((k0 < 0 ∨ ¬ k0 < nI (nw a9)) ∧ r0 = -1) ∨ (∃ b9 : Nat, k0 = nI b9 ∧ b9 < nw a9 ∧ r0 = orV ot ol on oa (6 * a9 + b9) c9)))) (fun (u : Int32) t => zW D (va_A [(h, .inr (13, mO r th si le lv (nI ng) pn pl rs)), (r 27, .inl (cI, 4, .inl wt)), (r 30, .inl (cJ, 24, .inr (.inl ot))), (r 31, .inl (cI, 24, .inl on)), (r 32, .inl (cZ, 24, .inl oa)), (r 33, .inl (cJ, 24, .inr (.inl ol)))] sz) [(h, .inr (13, mO r u si le lv (nI ng) pn pl rs)), (r 27, .inl (cI, 4, .inl wt)), (r 30, .inl (cJ, 24, .inr (.inl ot))), (r 31, .inl (cI, 24, .inl on)), (r 32, .inl (cZ, 24, .inl oa)), (r 33, .inl (cJ, 24, .inr (.inl ol)))] [(cI, .int), (cJ, .long), (cZ, .boolean)] t) (va_A [(h, .inr (13, mO r th si le lv (nI ng) pn pl rs)), (r 27, .inl (cI, 4, .inl wt)), (r 30, .inl (cJ, 24, .inr (.inl ot))), (r 31, .inl (cI, 24, .inl on)), (r 32, .inl (cZ, 24, .inl oa)), (r 33, .inl (cJ, 24, .inr (.inl ol)))] sz)) 0 0 (va_A [(h, .inr (13, mO r th si le lv (nI ng) pn pl rs)), (r 27, .inl (cI, 4, .inl wt)), (r 30, .inl (cJ, 24, .inr (.inl ot))), (r 31, .inl (cI, 24, .inl on)), (r 32, .inl (cZ, 24, .inl oa)), (r 33, .inl (cJ, 24, .inr (.inl ol)))] sz) := by
  refine Met.ofW (cc := b_Mo_order) (maxL := 5) (ret := (some .long)) (by decide) rfl ?_
  intro p e s m args below meth cd s₁ Bd hml hv
  obtain ⟨rfl, hsz, hP, hK, hN, hD0⟩ := hv
  have hx := Bd.exec
  have hb := Bd.bytes
  have hr := Bd.returns
  have hts := hN.use (a := ([.ref h, .int i, .int k0, .int wh]).toArray)
  have hown : s.vm.findClass R_Mo = some m.cls := findClass_of_methodNamed Bd.named
  have hlocks := Bd.notSynchronized
  subst hsz
  have hD := hD0.self (sz := s.heap.size)
  clear hD0
  have hA : ∀ q : Nat, s.heap.size ≤ q → va_A [(h, .inr (13, mO r th si le lv (nI ng) pn pl rs)), (r 27, .inl (cI, 4, .inl wt)), (r 30, .inl (cJ, 24, .inr (.inl ot))), (r 31, .inl (cI, 24, .inl on)), (r 32, .inl (cZ, 24, .inl oa)), (r 33, .inl (cJ, 24, .inr (.inl ol)))] s.heap.size q := fun q h => Or.inr h
  have hS : va_S (va_A [(h, .inr (13, mO r th si le lv (nI ng) pn pl rs)), (r 27, .inl (cI, 4, .inl wt)), (r 30, .inl (cJ, 24, .inr (.inl ot))), (r 31, .inl (cI, 24, .inl on)), (r 32, .inl (cZ, 24, .inl oa)), (r 33, .inl (cJ, 24, .inr (.inl ol)))] s.heap.size) s.heap s.heap [] := va_S.rf
  generalize hAe : va_A [(h, .inr (13, mO r th si le lv (nI ng) pn pl rs)), (r 27, .inl (cI, 4, .inl wt)), (r 30, .inl (cJ, 24, .inr (.inl ot))), (r 31, .inl (cI, 24, .inl on)), (r 32, .inl (cZ, 24, .inl oa)), (r 33, .inl (cJ, 24, .inr (.inl ol)))] s.heap.size = A at hD hA hS ⊢
  have hP : va_P D classes [(h, .inr (13, mO r th si le lv (nI ng) pn pl rs)), (r 27, .inl (cI, 4, .inl wt)), (r 30, .inl (cJ, 24, .inr (.inl ot))), (r 31, .inl (cI, 24, .inl on)), (r 32, .inl (cZ, 24, .inl oa)), (r 33, .inl (cJ, 24, .inr (.inl ol)))] s.heap := hP
  have hl := lv_entry ([.ref h, .int i, .int k0, .int wh]) (n := 5) (Nat.le_of_ble_eq_true rfl)
  rw [lg_entry_eq]
  generalize (lg_sl ([.ref h, .int i, .int k0, .int wh]) ++ List.replicate (5 - (lg_sl ([.ref h, .int i, .int k0, .int wh])).length) Slot.unset).toArray = ls at hl ⊢
  have hl : lv_has ls 5 [(0, .ref h), (1, .int i), (2, .int k0), (3, .int wh)] := hl
  refine lv_aload_n hx hb d_Mo_order_0 rfl (lv_at hl 0 rfl) ?_
  refine lv_iload_n hx hb d_Mo_order_1 rfl (lv_at hl 3 rfl) ?_
  refine lv_if_lt (tgt := 10) hx hb d_Mo_order_2 rfl (fun h2 => ?_) (fun h2 => ?_)
  · refine lv_iconst (v := 1) hx hb d_Mo_order_10 (by decide) ?_
    refine lv_goto (tgt := 27) hx hb d_Mo_order_11 rfl ?_
    refine va_put (D := D) (ci := 13) (v := .int 1) (ty := .int) (C := R_Mo) (T := F_Mo) (N := 54) hx hb hts i_Mo t_Mo t_Mo_ok n_Mo hown hK hP hD hS 0 rfl rfl 0 (by decide) (hts _ wd_1088) (fun _ h9 => h9) rfl (by decide +kernel) rfl rfl (Nat.le_of_ble_eq_true rfl) d_Mo_order_27 (fun H locs hP hD hS => ?_)
    have hP : va_P D classes [(h, .inr (13, mO r 1 si le lv (nI ng) pn pl rs)), (r 27, .inl (cI, 4, .inl wt)), (r 30, .inl (cJ, 24, .inr (.inl ot))), (r 31, .inl (cI, 24, .inl on)), (r 32, .inl (cZ, 24, .inl oa)), (r 33, .inl (cJ, 24, .inr (.inl ol)))] H := hP
    have hD : va_D A [(h, .inr (13, mO r 1 si le lv (nI ng) pn pl rs)), (r 27, .inl (cI, 4, .inl wt)), (r 30, .inl (cJ, 24, .inr (.inl ot))), (r 31, .inl (cI, 24, .inl on)), (r 32, .inl (cZ, 24, .inl oa)), (r 33, .inl (cJ, 24, .inr (.inl ol)))] := hD
    refine lv_aload_n hx hb d_Mo_order_30 rfl (lv_at hl 0 rfl) ?_
    refine va_get (D := D) (ci := 13) (v := .int 1) (C := R_Mo) (T := F_Mo) (N := 54) hx hb hts i_Mo hown hK hP 0 rfl rfl 0 (by decide) (hts _ wd_1088) (fun _ h9 => h9) rfl d_Mo_order_31 ?_
    refine lv_if_le (tgt := 39) hx hb d_Mo_order_34 rfl (fun h9 => absurd h9 (by decide)) (fun h34 => ?_)
    refine lv_lconst (v := 0) hx hb d_Mo_order_37 (by decide) ?_
    have hP9 := hP.sub (ws' := [(h, .inr (13, mO r 1 si le lv (nI ng) pn pl rs)), (r 27, .inl (cI, 4, .inl wt)), (r 30, .inl (cJ, 24, .inr (.inl ot))), (r 31, .inl (cI, 24, .inl on)), (r 32, .inl (cZ, 24, .inl oa)), (r 33, .inl (cJ, 24, .inr (.inl ol)))]) [0, 1, 2, 3, 4, 5] rfl
    have hD9 := hD.sub (ws' := [(h, .inr (13, mO r 1 si le lv (nI ng) pn pl rs)), (r 27, .inl (cI, 4, .inl wt)), (r 30, .inl (cJ, 24, .inr (.inl ot))), (r 31, .inl (cI, 24, .inl on)), (r 32, .inl (cZ, 24, .inl oa)), (r 33, .inl (cJ, 24, .inr (.inl ol)))]) [0, 1, 2, 3, 4, 5] (by decide) rfl
    have hK9 := hK.sub (tys' := [(cI, .int), (cJ, .long), (cZ, .boolean)]) [0, 1, 2] rfl
    exact W.lret (v := 0) hx hb hr (fun t ht hW => ⟨⟨_, 1, rfl, Or.inl ⟨by first | exact Or.inl h2 | exact Or.inr (Int32.not_le.mp h7), rfl, rfl⟩, ⟨by rw [ht]; exact hP9, va_K.moved hW.alike hK9, hD9⟩⟩, hS.F ht⟩) hS.2.2 d_Mo_order_38
  · refine lv_iload_n hx hb d_Mo_order_5 rfl (lv_at hl 3 rfl) ?_
    refine lv_iconst (v := 3) hx hb d_Mo_order_6 (by decide) ?_
    refine lv_icmp_le (tgt := 14) hx hb d_Mo_order_7 rfl (fun h7 => ?_) (fun h7 => ?_)
    · obtain ⟨c, hc6, hce⟩ := nI_of2 (x := wh) (M := 3) (n := 3) (by decide) h2 h7
      have hno : ¬ (wh < 0 ∨ 3 < wh) := fun z => z.elim h2 (Int32.not_lt.mpr h7)
      refine lv_aload_n hx hb d_Mo_order_14 rfl (lv_at hl 0 rfl) ?_
      refine lv_iload_n hx hb d_Mo_order_15 rfl (lv_at hl 1 rfl) ?_
      have hPc := hP.sub (ws' := [(h, .inr (13, mO r th si le lv (nI ng) pn pl rs))]) [0] rfl
      have hKc := hK.sub (tys' := []) [] rfl
      refine z_ci (va_runV (As := [.int i]) (rest := [.ref h]) ⟨hx, hb, hml, hown, hts⟩ (c_Mo_noProgramme l D cI h r th si le lv pn pl rs ng i ) (z_cV hN wd_1400 wd_67 wd_1397 hd_Mo_noProgramme rfl rfl ⟨Nat.le_of_ble_eq_true rfl, Nat.le_of_ble_eq_true rfl⟩ wd_1399 wd_52) (z_preV (va_recv (ci := 13) (q0 := 0) hK hP rfl rfl) hPc hKc hN) rfl rfl hl.1 rfl (lv_room (Nat.le_of_ble_eq_true rfl)) d_Mo_order_16 ⟨Nat.le_of_ble_eq_true rfl, Nat.le_of_ble_eq_true rfl⟩) (fun r16 e16 => ?_)
      subst e16
      refine lv_if_eq (tgt := 26) hx hb d_Mo_order_19 rfl (fun h19 => ?_) (fun h19 => ?_)
      · obtain ⟨a, ha, hae⟩ := pg_no h19 hng
        subst hae
        subst hce
        have hnj := hnw a ha
        refine lv_iconst (v := 0) hx hb d_Mo_order_26 (by decide) ?_
        refine va_put (D := D) (ci := 13) (v := .int 0) (ty := .int) (C := R_Mo) (T := F_Mo) (N := 54) hx hb hts i_Mo t_Mo t_Mo_ok n_Mo hown hK hP hD hS 0 rfl rfl 0 (by decide) (hts _ wd_1088) (fun _ h9 => h9) rfl (by decide +kernel) rfl rfl (Nat.le_of_ble_eq_true rfl) d_Mo_order_27 (fun H locs hP hD hS => ?_)
        have hP : va_P D classes [(h, .inr (13, mO r 0 si le lv (nI ng) pn pl rs)), (r 27, .inl (cI, 4, .inl wt)), (r 30, .inl (cJ, 24, .inr (.inl ot))), (r 31, .inl (cI, 24, .inl on)), (r 32, .inl (cZ, 24, .inl oa)), (r 33, .inl (cJ, 24, .inr (.inl ol)))] H := hP
        have hD : va_D A [(h, .inr (13, mO r 0 si le lv (nI ng) pn pl rs)), (r 27, .inl (cI, 4, .inl wt)), (r 30, .inl (cJ, 24, .inr (.inl ot))), (r 31, .inl (cI, 24, .inl on)), (r 32, .inl (cZ, 24, .inl oa)), (r 33, .inl (cJ, 24, .inr (.inl ol)))] := hD
        refine lv_aload_n hx hb d_Mo_order_30 rfl (lv_at hl 0 rfl) ?_
        refine va_get (D := D) (ci := 13) (v := .int 0) (C := R_Mo) (T := F_Mo) (N := 54) hx hb hts i_Mo hown hK hP 0 rfl rfl 0 (by decide) (hts _ wd_1088) (fun _ h9 => h9) rfl d_Mo_order_31 ?_
        refine lv_if_le (tgt := 39) hx hb d_Mo_order_34 rfl (fun h34 => ?_) (fun h9 => absurd h9 (by decide))
        refine lv_iload_n hx hb d_Mo_order_39 rfl (lv_at hl 2 rfl) ?_
        refine lv_if_lt (tgt := 53) hx hb d_Mo_order_40 rfl (fun h40 => ?_) (fun h40 => ?_)
        · refine lv_ldc2 hx hb hown (hts _ wd_1087) d_Mo_order_53 ?_
          have hP9 := hP.sub (ws' := [(h, .inr (13, mO r 0 si le lv (nI ng) pn pl rs)), (r 27, .inl (cI, 4, .inl wt)), (r 30, .inl (cJ, 24, .inr (.inl ot))), (r 31, .inl (cI, 24, .inl on)), (r 32, .inl (cZ, 24, .inl oa)), (r 33, .inl (cJ, 24, .inr (.inl ol)))]) [0, 1, 2, 3, 4, 5] rfl
          have hD9 := hD.sub (ws' := [(h, .inr (13, mO r 0 si le lv (nI ng) pn pl rs)), (r 27, .inl (cI, 4, .inl wt)), (r 30, .inl (cJ, 24, .inr (.inl ot))), (r 31, .inl (cI, 24, .inl on)), (r 32, .inl (cZ, 24, .inl oa)), (r 33, .inl (cJ, 24, .inr (.inl ol)))]) [0, 1, 2, 3, 4, 5] (by decide) rfl
          have hK9 := hK.sub (tys' := [(cI, .int), (cJ, .long), (cZ, .boolean)]) [0, 1, 2] rfl
          exact W.lret (v := (-1)) hx hb hr (fun t ht hW => ⟨⟨_, 0, rfl, Or.inr (Or.inr ⟨a, c, rfl, ha, rfl, hc6, rfl, Or.inl ⟨by first | exact Or.inl h40 | exact Or.inr h50, rfl⟩⟩), ⟨by rw [ht]; exact hP9, va_K.moved hW.alike hK9, hD9⟩⟩, hS.F ht⟩) hS.2.2 d_Mo_order_56
        · refine lv_iload_n hx hb d_Mo_order_43 rfl (lv_at hl 2 rfl) ?_
          refine lv_aload_n hx hb d_Mo_order_44 rfl (lv_at hl 0 rfl) ?_
          refine va_get (D := D) (ci := 13) (v := .ref (r 27)) (C := R_Mo) (T := F_Mo) (N := 54) hx hb hts i_Mo hown hK hP 0 rfl rfl 27 (by decide) (hts _ wd_1115) (fun _ h9 => h9) rfl d_Mo_order_45 ?_
          refine lv_iload_n hx hb d_Mo_order_48 rfl (lv_at hl 1 rfl) ?_
          refine z_iald hx hb hK hP 1 0 rfl rfl a rfl (by omega) (by omega) d_Mo_order_49 ?_
          refine z_topi (w := nI (nw a)) hnj.1 ?_
          refine lv_icmp_lt (tgt := 57) hx hb d_Mo_order_50 rfl (fun h50 => ?_) (fun h50 => ?_)
          · obtain ⟨b, hb9, hbe⟩ := z_in h40 h50 (by omega)
            subst hbe
            refine lv_bipush (v := 6) hx hb d_Mo_order_57 (by decide) ?_
            refine lv_iload_n hx hb d_Mo_order_59 rfl (lv_at hl 1 rfl) ?_
            refine lv_imul hx hb d_Mo_order_60 ?_
            refine z_topi (w := nI (6 * a)) (pk_mul 6 _) ?_
            refine lv_iload_n hx hb d_Mo_order_61 rfl (lv_at hl 2 rfl) ?_
            refine lv_iadd hx hb d_Mo_order_62 ?_
            refine z_topi (w := nI (6 * a + b)) (nI_add _ _) ?_
            refine lv_istore (lv' := [(4, .int (nI (6 * a + b))), (0, .ref h), (1, .int (nI a)), (2, .int (nI b)), (3, .int (nI c))]) hx hb d_Mo_order_63 hl (by decide) rfl (fun ls hl => ?_)
            refine lv_iload_n hx hb d_Mo_order_65 rfl (lv_at hl 4 rfl) ?_
            refine lv_if_ne (tgt := 79) hx hb d_Mo_order_66 rfl (fun h66 => ?_) (fun h66 => ?_)
            · have h66 : ¬ c = 0 := fun z => h66 (by rw [z]; rfl)
              refine lv_iload_n hx hb d_Mo_order_79 rfl (lv_at hl 4 rfl) ?_
              refine lv_iconst (v := 1) hx hb d_Mo_order_80 (by decide) ?_
              refine lv_icmp_ne (tgt := 99) hx hb d_Mo_order_81 rfl (fun h81 => ?_) (fun h81 => ?_)
              · have h81 : ¬ c = 1 := fun z => h81 (by rw [z]; rfl)
                refine lv_iload_n hx hb d_Mo_order_99 rfl (lv_at hl 4 rfl) ?_
                refine lv_iconst (v := 2) hx hb d_Mo_order_100 (by decide) ?_
                refine lv_icmp_ne (tgt := 122) hx hb d_Mo_order_101 rfl (fun h101 => ?_) (fun h101 => ?_)
                · have h101 : ¬ c = 2 := fun z => h101 (by rw [z]; rfl)
                  refine lv_aload_n hx hb d_Mo_order_122 rfl (lv_at hl 1 rfl) ?_
                  refine va_get (D := D) (ci := 13) (v := .ref (r 33)) (C := R_Mo) (T := F_Mo) (N := 54) hx hb hts i_Mo hown hK hP 0 rfl rfl 33 (by decide) (hts _ wd_1121) (fun _ h9 => h9) rfl d_Mo_order_123 ?_
                  refine lv_iload hx hb d_Mo_order_126 (lv_at hl 0 rfl) ?_
                  refine z_lald hx hb hK hP 5 1 rfl rfl (6 * a + b) rfl (by omega) (by omega) d_Mo_order_128 ?_
                  have hP9 := hP.sub (ws' := [(h, .inr (13, mO r 0 si le lv (nI ng) pn pl rs)), (r 27, .inl (cI, 4, .inl wt)), (r 30, .inl (cJ, 24, .inr (.inl ot))), (r 31, .inl (cI, 24, .inl on)), (r 32, .inl (cZ, 24, .inl oa)), (r 33, .inl (cJ, 24, .inr (.inl ol)))]) [0, 1, 2, 3, 4, 5] rfl
                  have hD9 := hD.sub (ws' := [(h, .inr (13, mO r 0 si le lv (nI ng) pn pl rs)), (r 27, .inl (cI, 4, .inl wt)), (r 30, .inl (cJ, 24, .inr (.inl ot))), (r 31, .inl (cI, 24, .inl on)), (r 32, .inl (cZ, 24, .inl oa)), (r 33, .inl (cJ, 24, .inr (.inl ol)))]) [0, 1, 2, 3, 4, 5] (by decide) rfl
                  have hK9 := hK.sub (tys' := [(cI, .int), (cJ, .long), (cZ, .boolean)]) [0, 1, 2] rfl
                  exact W.lret (v := (ol (6 * a + b))) hx hb hr (fun t ht hW => ⟨⟨_, 0, rfl, Or.inr (Or.inr ⟨a, c, rfl, ha, rfl, hc6, rfl, Or.inr ⟨b, rfl, hb9, by unfold orV; first | rw [if_pos h66] | rw [if_neg h66, if_pos h81] | rw [if_neg h66, if_neg h81, if_pos h101, if_pos h111] | rw [if_neg h66, if_neg h81, if_pos h101, if_neg h111] | rw [if_neg h66, if_neg h81, if_neg h101]⟩⟩), ⟨by rw [ht]; exact hP9, va_K.moved hW.alike hK9, hD9⟩⟩, hS.F ht⟩) hS.2.2 d_Mo_order_129
                · have h101 := (nI_eq (b := 2) (by omega) (by omega)).mp h101
                  refine lv_aload_n hx hb d_Mo_order_104 rfl (lv_at hl 1 rfl) ?_
                  refine va_get (D := D) (ci := 13) (v := .ref (r 32)) (C := R_Mo) (T := F_Mo) (N := 54) hx hb hts i_Mo hown hK hP 0 rfl rfl 32 (by decide) (hts _ wd_1120) (fun _ h9 => h9) rfl d_Mo_order_105 ?_
                  refine lv_iload hx hb d_Mo_order_108 (lv_at hl 0 rfl) ?_
                  refine z_zald hx hb hK hP 4 2 rfl rfl (6 * a + b) rfl (by omega) (by omega) d_Mo_order_110 ?_
                  refine lv_if_eq (tgt := 118) hx hb d_Mo_order_111 rfl (fun h111 => ?_) (fun h111 => ?_)
                  · refine lv_lconst (v := 0) hx hb d_Mo_order_118 (by decide) ?_
                    refine lv_goto (tgt := 129) hx hb d_Mo_order_119 rfl ?_
                    have hP9 := hP.sub (ws' := [(h, .inr (13, mO r 0 si le lv (nI ng) pn pl rs)), (r 27, .inl (cI, 4, .inl wt)), (r 30, .inl (cJ, 24, .inr (.inl ot))), (r 31, .inl (cI, 24, .inl on)), (r 32, .inl (cZ, 24, .inl oa)), (r 33, .inl (cJ, 24, .inr (.inl ol)))]) [0, 1, 2, 3, 4, 5] rfl
                    have hD9 := hD.sub (ws' := [(h, .inr (13, mO r 0 si le lv (nI ng) pn pl rs)), (r 27, .inl (cI, 4, .inl wt)), (r 30, .inl (cJ, 24, .inr (.inl ot))), (r 31, .inl (cI, 24, .inl on)), (r 32, .inl (cZ, 24, .inl oa)), (r 33, .inl (cJ, 24, .inr (.inl ol)))]) [0, 1, 2, 3, 4, 5] (by decide) rfl
                    have hK9 := hK.sub (tys' := [(cI, .int), (cJ, .long), (cZ, .boolean)]) [0, 1, 2] rfl
                    exact W.lret (v := 0) hx hb hr (fun t ht hW => ⟨⟨_, 0, rfl, Or.inr (Or.inr ⟨a, c, rfl, ha, rfl, hc6, rfl, Or.inr ⟨b, rfl, hb9, by unfold orV; first | rw [if_pos h66] | rw [if_neg h66, if_pos h81] | rw [if_neg h66, if_neg h81, if_pos h101, if_pos h111] | rw [if_neg h66, if_neg h81, if_pos h101, if_neg h111] | rw [if_neg h66, if_neg h81, if_neg h101]⟩⟩), ⟨by rw [ht]; exact hP9, va_K.moved hW.alike hK9, hD9⟩⟩, hS.F ht⟩) hS.2.2 d_Mo_order_129
                  · refine lv_lconst (v := 1) hx hb d_Mo_order_114 (by decide) ?_
                    refine lv_goto (tgt := 129) hx hb d_Mo_order_115 rfl ?_
                    have hP9 := hP.sub (ws' := [(h, .inr (13, mO r 0 si le lv (nI ng) pn pl rs)), (r 27, .inl (cI, 4, .inl wt)), (r 30, .inl (cJ, 24, .inr (.inl ot))), (r 31, .inl (cI, 24, .inl on)), (r 32, .inl (cZ, 24, .inl oa)), (r 33, .inl (cJ, 24, .inr (.inl ol)))]) [0, 1, 2, 3, 4, 5] rfl
                    have hD9 := hD.sub (ws' := [(h, .inr (13, mO r 0 si le lv (nI ng) pn pl rs)), (r 27, .inl (cI, 4, .inl wt)), (r 30, .inl (cJ, 24, .inr (.inl ot))), (r 31, .inl (cI, 24, .inl on)), (r 32, .inl (cZ, 24, .inl oa)), (r 33, .inl (cJ, 24, .inr (.inl ol)))]) [0, 1, 2, 3, 4, 5] (by decide) rfl
                    have hK9 := hK.sub (tys' := [(cI, .int), (cJ, .long), (cZ, .boolean)]) [0, 1, 2] rfl
                    exact W.lret (v := 1) hx hb hr (fun t ht hW => ⟨⟨_, 0, rfl, Or.inr (Or.inr ⟨a, c, rfl, ha, rfl, hc6, rfl, Or.inr ⟨b, rfl, hb9, by unfold orV; first | rw [if_pos h66] | rw [if_neg h66, if_pos h81] | rw [if_neg h66, if_neg h81, if_pos h101, if_pos h111] | rw [if_neg h66, if_neg h81, if_pos h101, if_neg h111] | rw [if_neg h66, if_neg h81, if_neg h101]⟩⟩), ⟨by rw [ht]; exact hP9, va_K.moved hW.alike hK9, hD9⟩⟩, hS.F ht⟩) hS.2.2 d_Mo_order_129
              · have h81 := (nI_eq (b := 1) (by omega) (by omega)).mp h81
                refine lv_aload_n hx hb d_Mo_order_84 rfl (lv_at hl 1 rfl) ?_
                refine va_get (D := D) (ci := 13) (v := .ref (r 31)) (C := R_Mo) (T := F_Mo) (N := 54) hx hb hts i_Mo hown hK hP 0 rfl rfl 31 (by decide) (hts _ wd_1119) (fun _ h9 => h9) rfl d_Mo_order_85 ?_
                refine lv_iload hx hb d_Mo_order_88 (lv_at hl 0 rfl) ?_
                refine z_iald hx hb hK hP 3 0 rfl rfl (6 * a + b) rfl (by omega) (by omega) d_Mo_order_90 ?_
                refine lv_i2l (v := (on (6 * a + b)).toInt64) hx hb d_Mo_order_91 rfl ?_
                refine lv_ldc2 hx hb hown (hts _ wd_1414) d_Mo_order_92 ?_
                refine lv_land hx hb d_Mo_order_95 ?_
                refine lv_goto (tgt := 129) hx hb d_Mo_order_96 rfl ?_
                have hP9 := hP.sub (ws' := [(h, .inr (13, mO r 0 si le lv (nI ng) pn pl rs)), (r 27, .inl (cI, 4, .inl wt)), (r 30, .inl (cJ, 24, .inr (.inl ot))), (r 31, .inl (cI, 24, .inl on)), (r 32, .inl (cZ, 24, .inl oa)), (r 33, .inl (cJ, 24, .inr (.inl ol)))]) [0, 1, 2, 3, 4, 5] rfl
                have hD9 := hD.sub (ws' := [(h, .inr (13, mO r 0 si le lv (nI ng) pn pl rs)), (r 27, .inl (cI, 4, .inl wt)), (r 30, .inl (cJ, 24, .inr (.inl ot))), (r 31, .inl (cI, 24, .inl on)), (r 32, .inl (cZ, 24, .inl oa)), (r 33, .inl (cJ, 24, .inr (.inl ol)))]) [0, 1, 2, 3, 4, 5] (by decide) rfl
                have hK9 := hK.sub (tys' := [(cI, .int), (cJ, .long), (cZ, .boolean)]) [0, 1, 2] rfl
                exact W.lret (v := (((on (6 * a + b)).toInt64) &&& 4294967295)) hx hb hr (fun t ht hW => ⟨⟨_, 0, rfl, Or.inr (Or.inr ⟨a, c, rfl, ha, rfl, hc6, rfl, Or.inr ⟨b, rfl, hb9, by unfold orV; first | rw [if_pos h66] | rw [if_neg h66, if_pos h81] | rw [if_neg h66, if_neg h81, if_pos h101, if_pos h111] | rw [if_neg h66, if_neg h81, if_pos h101, if_neg h111] | rw [if_neg h66, if_neg h81, if_neg h101]⟩⟩), ⟨by rw [ht]; exact hP9, va_K.moved hW.alike hK9, hD9⟩⟩, hS.F ht⟩) hS.2.2 d_Mo_order_129
            · have h66 := (nI_eq (b := 0) (by omega) (by omega)).mp h66
              refine lv_aload_n hx hb d_Mo_order_69 rfl (lv_at hl 1 rfl) ?_
              refine va_get (D := D) (ci := 13) (v := .ref (r 30)) (C := R_Mo) (T := F_Mo) (N := 54) hx hb hts i_Mo hown hK hP 0 rfl rfl 30 (by decide) (hts _ wd_1118) (fun _ h9 => h9) rfl d_Mo_order_70 ?_
              refine lv_iload hx hb d_Mo_order_73 (lv_at hl 0 rfl) ?_
              refine z_lald hx hb hK hP 2 1 rfl rfl (6 * a + b) rfl (by omega) (by omega) d_Mo_order_75 ?_
              refine lv_goto (tgt := 129) hx hb d_Mo_order_76 rfl ?_
              have hP9 := hP.sub (ws' := [(h, .inr (13, mO r 0 si le lv (nI ng) pn pl rs)), (r 27, .inl (cI, 4, .inl wt)), (r 30, .inl (cJ, 24, .inr (.inl ot))), (r 31, .inl (cI, 24, .inl on)), (r 32, .inl (cZ, 24, .inl oa)), (r 33, .inl (cJ, 24, .inr (.inl ol)))]) [0, 1, 2, 3, 4, 5] rfl
              have hD9 := hD.sub (ws' := [(h, .inr (13, mO r 0 si le lv (nI ng) pn pl rs)), (r 27, .inl (cI, 4, .inl wt)), (r 30, .inl (cJ, 24, .inr (.inl ot))), (r 31, .inl (cI, 24, .inl on)), (r 32, .inl (cZ, 24, .inl oa)), (r 33, .inl (cJ, 24, .inr (.inl ol)))]) [0, 1, 2, 3, 4, 5] (by decide) rfl
              have hK9 := hK.sub (tys' := [(cI, .int), (cJ, .long), (cZ, .boolean)]) [0, 1, 2] rfl
              exact W.lret (v := (ot (6 * a + b))) hx hb hr (fun t ht hW => ⟨⟨_, 0, rfl, Or.inr (Or.inr ⟨a, c, rfl, ha, rfl, hc6, rfl, Or.inr ⟨b, rfl, hb9, by unfold orV; first | rw [if_pos h66] | rw [if_neg h66, if_pos h81] | rw [if_neg h66, if_neg h81, if_pos h101, if_pos h111] | rw [if_neg h66, if_neg h81, if_pos h101, if_neg h111] | rw [if_neg h66, if_neg h81, if_neg h101]⟩⟩), ⟨by rw [ht]; exact hP9, va_K.moved hW.alike hK9, hD9⟩⟩, hS.F ht⟩) hS.2.2 d_Mo_order_129
          · refine lv_ldc2 hx hb hown (hts _ wd_1087) d_Mo_order_53 ?_
            have hP9 := hP.sub (ws' := [(h, .inr (13, mO r 0 si le lv (nI ng) pn pl rs)), (r 27, .inl (cI, 4, .inl wt)), (r 30, .inl (cJ, 24, .inr (.inl ot))), (r 31, .inl (cI, 24, .inl on)), (r 32, .inl (cZ, 24, .inl oa)), (r 33, .inl (cJ, 24, .inr (.inl ol)))]) [0, 1, 2, 3, 4, 5] rfl
            have hD9 := hD.sub (ws' := [(h, .inr (13, mO r 0 si le lv (nI ng) pn pl rs)), (r 27, .inl (cI, 4, .inl wt)), (r 30, .inl (cJ, 24, .inr (.inl ot))), (r 31, .inl (cI, 24, .inl on)), (r 32, .inl (cZ, 24, .inl oa)), (r 33, .inl (cJ, 24, .inr (.inl ol)))]) [0, 1, 2, 3, 4, 5] (by decide) rfl
            have hK9 := hK.sub (tys' := [(cI, .int), (cJ, .long), (cZ, .boolean)]) [0, 1, 2] rfl
            exact W.lret (v := (-1)) hx hb hr (fun t ht hW => ⟨⟨_, 0, rfl, Or.inr (Or.inr ⟨a, c, rfl, ha, rfl, hc6, rfl, Or.inl ⟨by first | exact Or.inl h40 | exact Or.inr h50, rfl⟩⟩), ⟨by rw [ht]; exact hP9, va_K.moved hW.alike hK9, hD9⟩⟩, hS.F ht⟩) hS.2.2 d_Mo_order_56
      · have h19 := pg_yes h19
        refine lv_iconst (v := 2) hx hb d_Mo_order_22 (by decide) ?_
        refine lv_goto (tgt := 27) hx hb d_Mo_order_23 rfl ?_
        refine va_put (D := D) (ci := 13) (v := .int 2) (ty := .int) (C := R_Mo) (T := F_Mo) (N := 54) hx hb hts i_Mo t_Mo t_Mo_ok n_Mo hown hK hP hD hS 0 rfl rfl 0 (by decide) (hts _ wd_1088) (fun _ h9 => h9) rfl (by decide +kernel) rfl rfl (Nat.le_of_ble_eq_true rfl) d_Mo_order_27 (fun H locs hP hD hS => ?_)
        have hP : va_P D classes [(h, .inr (13, mO r 2 si le lv (nI ng) pn pl rs)), (r 27, .inl (cI, 4, .inl wt)), (r 30, .inl (cJ, 24, .inr (.inl ot))), (r 31, .inl (cI, 24, .inl on)), (r 32, .inl (cZ, 24, .inl oa)), (r 33, .inl (cJ, 24, .inr (.inl ol)))] H := hP
        have hD : va_D A [(h, .inr (13, mO r 2 si le lv (nI ng) pn pl rs)), (r 27, .inl (cI, 4, .inl wt)), (r 30, .inl (cJ, 24, .inr (.inl ot))), (r 31, .inl (cI, 24, .inl on)), (r 32, .inl (cZ, 24, .inl oa)), (r 33, .inl (cJ, 24, .inr (.inl ol)))] := hD
        refine lv_aload_n hx hb d_Mo_order_30 rfl (lv_at hl 0 rfl) ?_
        refine va_get (D := D) (ci := 13) (v := .int 2) (C := R_Mo) (T := F_Mo) (N := 54) hx hb hts i_Mo hown hK hP 0 rfl rfl 0 (by decide) (hts _ wd_1088) (fun _ h9 => h9) rfl d_Mo_order_31 ?_
        refine lv_if_le (tgt := 39) hx hb d_Mo_order_34 rfl (fun h9 => absurd h9 (by decide)) (fun h34 => ?_)
        refine lv_lconst (v := 0) hx hb d_Mo_order_37 (by decide) ?_
        have hP9 := hP.sub (ws' := [(h, .inr (13, mO r 2 si le lv (nI ng) pn pl rs)), (r 27, .inl (cI, 4, .inl wt)), (r 30, .inl (cJ, 24, .inr (.inl ot))), (r 31, .inl (cI, 24, .inl on)), (r 32, .inl (cZ, 24, .inl oa)), (r 33, .inl (cJ, 24, .inr (.inl ol)))]) [0, 1, 2, 3, 4, 5] rfl
        have hD9 := hD.sub (ws' := [(h, .inr (13, mO r 2 si le lv (nI ng) pn pl rs)), (r 27, .inl (cI, 4, .inl wt)), (r 30, .inl (cJ, 24, .inr (.inl ot))), (r 31, .inl (cI, 24, .inl on)), (r 32, .inl (cZ, 24, .inl oa)), (r 33, .inl (cJ, 24, .inr (.inl ol)))]) [0, 1, 2, 3, 4, 5] (by decide) rfl
        have hK9 := hK.sub (tys' := [(cI, .int), (cJ, .long), (cZ, .boolean)]) [0, 1, 2] rfl
        exact W.lret (v := 0) hx hb hr (fun t ht hW => ⟨⟨_, 2, rfl, Or.inr (Or.inl ⟨hno, h19, rfl, rfl⟩), ⟨by rw [ht]; exact hP9, va_K.moved hW.alike hK9, hD9⟩⟩, hS.F ht⟩) hS.2.2 d_Mo_order_38
    · refine lv_iconst (v := 1) hx hb d_Mo_order_10 (by decide) ?_
      refine lv_goto (tgt := 27) hx hb d_Mo_order_11 rfl ?_
      refine va_put (D := D) (ci := 13) (v := .int 1) (ty := .int) (C := R_Mo) (T := F_Mo) (N := 54) hx hb hts i_Mo t_Mo t_Mo_ok n_Mo hown hK hP hD hS 0 rfl rfl 0 (by decide) (hts _ wd_1088) (fun _ h9 => h9) rfl (by decide +kernel) rfl rfl (Nat.le_of_ble_eq_true rfl) d_Mo_order_27 (fun H locs hP hD hS => ?_)
      have hP : va_P D classes [(h, .inr (13, mO r 1 si le lv (nI ng) pn pl rs)), (r 27, .inl (cI, 4, .inl wt)), (r 30, .inl (cJ, 24, .inr (.inl ot))), (r 31, .inl (cI, 24, .inl on)), (r 32, .inl (cZ, 24, .inl oa)), (r 33, .inl (cJ, 24, .inr (.inl ol)))] H := hP
      have hD : va_D A [(h, .inr (13, mO r 1 si le lv (nI ng) pn pl rs)), (r 27, .inl (cI, 4, .inl wt)), (r 30, .inl (cJ, 24, .inr (.inl ot))), (r 31, .inl (cI, 24, .inl on)), (r 32, .inl (cZ, 24, .inl oa)), (r 33, .inl (cJ, 24, .inr (.inl ol)))] := hD
      refine lv_aload_n hx hb d_Mo_order_30 rfl (lv_at hl 0 rfl) ?_
      refine va_get (D := D) (ci := 13) (v := .int 1) (C := R_Mo) (T := F_Mo) (N := 54) hx hb hts i_Mo hown hK hP 0 rfl rfl 0 (by decide) (hts _ wd_1088) (fun _ h9 => h9) rfl d_Mo_order_31 ?_
      refine lv_if_le (tgt := 39) hx hb d_Mo_order_34 rfl (fun h9 => absurd h9 (by decide)) (fun h34 => ?_)
      refine lv_lconst (v := 0) hx hb d_Mo_order_37 (by decide) ?_
      have hP9 := hP.sub (ws' := [(h, .inr (13, mO r 1 si le lv (nI ng) pn pl rs)), (r 27, .inl (cI, 4, .inl wt)), (r 30, .inl (cJ, 24, .inr (.inl ot))), (r 31, .inl (cI, 24, .inl on)), (r 32, .inl (cZ, 24, .inl oa)), (r 33, .inl (cJ, 24, .inr (.inl ol)))]) [0, 1, 2, 3, 4, 5] rfl
      have hD9 := hD.sub (ws' := [(h, .inr (13, mO r 1 si le lv (nI ng) pn pl rs)), (r 27, .inl (cI, 4, .inl wt)), (r 30, .inl (cJ, 24, .inr (.inl ot))), (r 31, .inl (cI, 24, .inl on)), (r 32, .inl (cZ, 24, .inl oa)), (r 33, .inl (cJ, 24, .inr (.inl ol)))]) [0, 1, 2, 3, 4, 5] (by decide) rfl
      have hK9 := hK.sub (tys' := [(cI, .int), (cJ, .long), (cZ, .boolean)]) [0, 1, 2] rfl
      exact W.lret (v := 0) hx hb hr (fun t ht hW => ⟨⟨_, 1, rfl, Or.inl ⟨by first | exact Or.inl h2 | exact Or.inr (Int32.not_le.mp h7), rfl, rfl⟩, ⟨by rw [ht]; exact hP9, va_K.moved hW.alike hK9, hD9⟩⟩, hS.F ht⟩) hS.2.2 d_Mo_order_38
set_option maxHeartbeats 4000000 in
set_option maxRecDepth 100000 in
theorem c_Mo_piece (l : Launch) (D : va_G) (sz : Nat) (cJ : ClassId) (h : Nat) (r : Nat → Nat) (th si le lv pg pl rs : Int32) (np : Nat) (dn : Nat → Int64) (i wh : Int32) (hnp : np < 2 ^ 30) : Met l y_Mo_piece [Cond.code y_Mo_piece b_Mo_piece 3 (some .long)] ({ frames := 0, cells := 0, slots := 0, locals := 0 }) (zM [.ref h, .int i, .int wh] D [(h, .inr (13, mO r th si le lv pg (nI np) pl rs)), (r 43, .inl (cJ, 80, .inr (.inl dn)))] [(cJ, .long)] sz) (va_Ql (fun r0 (u : Int32) => ((wh < 0 ∨ 4 < wh ∨ i < 0) ∧ u = 1 ∧ r0 = 0) ∨ (¬ (wh < 0 ∨ 4 < wh ∨ i < 0) ∧ u = 0 ∧ (((15 < i ∨ ¬ i < nI np) ∧ r0 = -1) ∨ (∃ a9 b9 : Nat, i = nI a9 ∧ a9 ≤ 15 ∧ a9 < np ∧ wh = nI b9 ∧ b9 ≤ 4 ∧ r0 = dn (5 * ((np - 1 - a9) % 16) + b9))))) (fun (u : Int32) t => zW D (va_A [(h, .inr (13, mO r th si le lv pg (nI np) pl rs)), (r 43, .inl (cJ, 80, .inr (.inl dn)))] sz) [(h, .inr (13, mO r u si le lv pg (nI np) pl rs)), (r 43, .inl (cJ, 80, .inr (.inl dn)))] [(cJ, .long)] t) (va_A [(h, .inr (13, mO r th si le lv pg (nI np) pl rs)), (r 43, .inl (cJ, 80, .inr (.inl dn)))] sz)) 0 0 (va_A [(h, .inr (13, mO r th si le lv pg (nI np) pl rs)), (r 43, .inl (cJ, 80, .inr (.inl dn)))] sz) := by
  refine Met.ofW (cc := b_Mo_piece) (maxL := 3) (ret := (some .long)) (by decide) rfl ?_
  intro p e s m args below meth cd s₁ Bd hml hv
  obtain ⟨rfl, hsz, hP, hK, hN, hD0⟩ := hv
  have hx := Bd.exec
  have hb := Bd.bytes
  have hr := Bd.returns
  have hts := hN.use (a := ([.ref h, .int i, .int wh]).toArray)
  have hown : s.vm.findClass R_Mo = some m.cls := findClass_of_methodNamed Bd.named
  have hlocks := Bd.notSynchronized
  subst hsz
  have hD := hD0.self (sz := s.heap.size)
  clear hD0
  have hA : ∀ q : Nat, s.heap.size ≤ q → va_A [(h, .inr (13, mO r th si le lv pg (nI np) pl rs)), (r 43, .inl (cJ, 80, .inr (.inl dn)))] s.heap.size q := fun q h => Or.inr h
  have hS : va_S (va_A [(h, .inr (13, mO r th si le lv pg (nI np) pl rs)), (r 43, .inl (cJ, 80, .inr (.inl dn)))] s.heap.size) s.heap s.heap [] := va_S.rf
  generalize hAe : va_A [(h, .inr (13, mO r th si le lv pg (nI np) pl rs)), (r 43, .inl (cJ, 80, .inr (.inl dn)))] s.heap.size = A at hD hA hS ⊢
  have hP : va_P D classes [(h, .inr (13, mO r th si le lv pg (nI np) pl rs)), (r 43, .inl (cJ, 80, .inr (.inl dn)))] s.heap := hP
  have hl := lv_entry ([.ref h, .int i, .int wh]) (n := 3) (Nat.le_of_ble_eq_true rfl)
  rw [lg_entry_eq]
  generalize (lg_sl ([.ref h, .int i, .int wh]) ++ List.replicate (3 - (lg_sl ([.ref h, .int i, .int wh])).length) Slot.unset).toArray = ls at hl ⊢
  have hl : lv_has ls 3 [(0, .ref h), (1, .int i), (2, .int wh)] := hl
  refine lv_aload_n hx hb d_Mo_piece_0 rfl (lv_at hl 0 rfl) ?_
  refine lv_iload_n hx hb d_Mo_piece_1 rfl (lv_at hl 2 rfl) ?_
  refine lv_if_lt (tgt := 14) hx hb d_Mo_piece_2 rfl (fun h2 => ?_) (fun h2 => ?_)
  · refine lv_iconst (v := 1) hx hb d_Mo_piece_14 (by decide) ?_
    refine lv_goto (tgt := 19) hx hb d_Mo_piece_15 rfl ?_
    refine va_put (D := D) (ci := 13) (v := .int 1) (ty := .int) (C := R_Mo) (T := F_Mo) (N := 54) hx hb hts i_Mo t_Mo t_Mo_ok n_Mo hown hK hP hD hS 0 rfl rfl 0 (by decide) (hts _ wd_1088) (fun _ h9 => h9) rfl (by decide +kernel) rfl rfl (Nat.le_of_ble_eq_true rfl) d_Mo_piece_19 (fun H locs hP hD hS => ?_)
    have hP : va_P D classes [(h, .inr (13, mO r 1 si le lv pg (nI np) pl rs)), (r 43, .inl (cJ, 80, .inr (.inl dn)))] H := hP
    have hD : va_D A [(h, .inr (13, mO r 1 si le lv pg (nI np) pl rs)), (r 43, .inl (cJ, 80, .inr (.inl dn)))] := hD
    refine lv_aload_n hx hb d_Mo_piece_22 rfl (lv_at hl 0 rfl) ?_
    refine va_get (D := D) (ci := 13) (v := .int 1) (C := R_Mo) (T := F_Mo) (N := 54) hx hb hts i_Mo hown hK hP 0 rfl rfl 0 (by decide) (hts _ wd_1088) (fun _ h9 => h9) rfl d_Mo_piece_23 ?_
    refine lv_if_le (tgt := 31) hx hb d_Mo_piece_26 rfl (fun h9 => absurd h9 (by decide)) (fun h26 => ?_)
    refine lv_lconst (v := 0) hx hb d_Mo_piece_29 (by decide) ?_
    have hP9 := hP.sub (ws' := [(h, .inr (13, mO r 1 si le lv pg (nI np) pl rs)), (r 43, .inl (cJ, 80, .inr (.inl dn)))]) [0, 1] rfl
    have hD9 := hD.sub (ws' := [(h, .inr (13, mO r 1 si le lv pg (nI np) pl rs)), (r 43, .inl (cJ, 80, .inr (.inl dn)))]) [0, 1] (by decide) rfl
    have hK9 := hK.sub (tys' := [(cJ, .long)]) [0] rfl
    exact W.lret (v := 0) hx hb hr (fun t ht hW => ⟨⟨_, 1, rfl, Or.inl ⟨by first | exact Or.inl h2 | exact Or.inr (Or.inl h7) | exact Or.inr (Or.inr (Int32.not_le.mp h11)), rfl, rfl⟩, ⟨by rw [ht]; exact hP9, va_K.moved hW.alike hK9, hD9⟩⟩, hS.F ht⟩) hS.2.2 d_Mo_piece_30
  · refine lv_iload_n hx hb d_Mo_piece_5 rfl (lv_at hl 2 rfl) ?_
    refine lv_iconst (v := 4) hx hb d_Mo_piece_6 (by decide) ?_
    refine lv_icmp_gt (tgt := 14) hx hb d_Mo_piece_7 rfl (fun h7 => ?_) (fun h7 => ?_)
    · refine lv_iconst (v := 1) hx hb d_Mo_piece_14 (by decide) ?_
      refine lv_goto (tgt := 19) hx hb d_Mo_piece_15 rfl ?_
      refine va_put (D := D) (ci := 13) (v := .int 1) (ty := .int) (C := R_Mo) (T := F_Mo) (N := 54) hx hb hts i_Mo t_Mo t_Mo_ok n_Mo hown hK hP hD hS 0 rfl rfl 0 (by decide) (hts _ wd_1088) (fun _ h9 => h9) rfl (by decide +kernel) rfl rfl (Nat.le_of_ble_eq_true rfl) d_Mo_piece_19 (fun H locs hP hD hS => ?_)
      have hP : va_P D classes [(h, .inr (13, mO r 1 si le lv pg (nI np) pl rs)), (r 43, .inl (cJ, 80, .inr (.inl dn)))] H := hP
      have hD : va_D A [(h, .inr (13, mO r 1 si le lv pg (nI np) pl rs)), (r 43, .inl (cJ, 80, .inr (.inl dn)))] := hD
      refine lv_aload_n hx hb d_Mo_piece_22 rfl (lv_at hl 0 rfl) ?_
      refine va_get (D := D) (ci := 13) (v := .int 1) (C := R_Mo) (T := F_Mo) (N := 54) hx hb hts i_Mo hown hK hP 0 rfl rfl 0 (by decide) (hts _ wd_1088) (fun _ h9 => h9) rfl d_Mo_piece_23 ?_
      refine lv_if_le (tgt := 31) hx hb d_Mo_piece_26 rfl (fun h9 => absurd h9 (by decide)) (fun h26 => ?_)
      refine lv_lconst (v := 0) hx hb d_Mo_piece_29 (by decide) ?_
      have hP9 := hP.sub (ws' := [(h, .inr (13, mO r 1 si le lv pg (nI np) pl rs)), (r 43, .inl (cJ, 80, .inr (.inl dn)))]) [0, 1] rfl
      have hD9 := hD.sub (ws' := [(h, .inr (13, mO r 1 si le lv pg (nI np) pl rs)), (r 43, .inl (cJ, 80, .inr (.inl dn)))]) [0, 1] (by decide) rfl
      have hK9 := hK.sub (tys' := [(cJ, .long)]) [0] rfl
      exact W.lret (v := 0) hx hb hr (fun t ht hW => ⟨⟨_, 1, rfl, Or.inl ⟨by first | exact Or.inl h2 | exact Or.inr (Or.inl h7) | exact Or.inr (Or.inr (Int32.not_le.mp h11)), rfl, rfl⟩, ⟨by rw [ht]; exact hP9, va_K.moved hW.alike hK9, hD9⟩⟩, hS.F ht⟩) hS.2.2 d_Mo_piece_30
    · refine lv_iload_n hx hb d_Mo_piece_10 rfl (lv_at hl 1 rfl) ?_
      refine lv_if_ge (tgt := 18) hx hb d_Mo_piece_11 rfl (fun h11 => ?_) (fun h11 => ?_)
      · have h11 : ¬ i < 0 := Int32.not_lt.mpr h11
        have hno : ¬ (wh < 0 ∨ 4 < wh ∨ i < 0) := fun z => z.elim h2 (fun z => z.elim h7 h11)
        refine lv_iconst (v := 0) hx hb d_Mo_piece_18 (by decide) ?_
        refine va_put (D := D) (ci := 13) (v := .int 0) (ty := .int) (C := R_Mo) (T := F_Mo) (N := 54) hx hb hts i_Mo t_Mo t_Mo_ok n_Mo hown hK hP hD hS 0 rfl rfl 0 (by decide) (hts _ wd_1088) (fun _ h9 => h9) rfl (by decide +kernel) rfl rfl (Nat.le_of_ble_eq_true rfl) d_Mo_piece_19 (fun H locs hP hD hS => ?_)
        have hP : va_P D classes [(h, .inr (13, mO r 0 si le lv pg (nI np) pl rs)), (r 43, .inl (cJ, 80, .inr (.inl dn)))] H := hP
        have hD : va_D A [(h, .inr (13, mO r 0 si le lv pg (nI np) pl rs)), (r 43, .inl (cJ, 80, .inr (.inl dn)))] := hD
        refine lv_aload_n hx hb d_Mo_piece_22 rfl (lv_at hl 0 rfl) ?_
        refine va_get (D := D) (ci := 13) (v := .int 0) (C := R_Mo) (T := F_Mo) (N := 54) hx hb hts i_Mo hown hK hP 0 rfl rfl 0 (by decide) (hts _ wd_1088) (fun _ h9 => h9) rfl d_Mo_piece_23 ?_
        refine lv_if_le (tgt := 31) hx hb d_Mo_piece_26 rfl (fun h26 => ?_) (fun h9 => absurd h9 (by decide))
        refine lv_iload_n hx hb d_Mo_piece_31 rfl (lv_at hl 1 rfl) ?_
        refine lv_bipush (v := 15) hx hb d_Mo_piece_32 (by decide) ?_
        refine lv_icmp_gt (tgt := 45) hx hb d_Mo_piece_34 rfl (fun h34 => ?_) (fun h34 => ?_)
        · refine lv_ldc2 hx hb hown (hts _ wd_1087) d_Mo_piece_45 ?_
          refine lv_goto (tgt := 71) hx hb d_Mo_piece_48 rfl ?_
          have hP9 := hP.sub (ws' := [(h, .inr (13, mO r 0 si le lv pg (nI np) pl rs)), (r 43, .inl (cJ, 80, .inr (.inl dn)))]) [0, 1] rfl
          have hD9 := hD.sub (ws' := [(h, .inr (13, mO r 0 si le lv pg (nI np) pl rs)), (r 43, .inl (cJ, 80, .inr (.inl dn)))]) [0, 1] (by decide) rfl
          have hK9 := hK.sub (tys' := [(cJ, .long)]) [0] rfl
          exact W.lret (v := (-1)) hx hb hr (fun t ht hW => ⟨⟨_, 0, rfl, Or.inr ⟨hno, rfl, Or.inl ⟨by first | exact Or.inl h34 | exact Or.inr h42, rfl⟩⟩, ⟨by rw [ht]; exact hP9, va_K.moved hW.alike hK9, hD9⟩⟩, hS.F ht⟩) hS.2.2 d_Mo_piece_71
        · refine lv_iload_n hx hb d_Mo_piece_37 rfl (lv_at hl 1 rfl) ?_
          refine lv_aload_n hx hb d_Mo_piece_38 rfl (lv_at hl 0 rfl) ?_
          refine va_get (D := D) (ci := 13) (v := .int (nI np)) (C := R_Mo) (T := F_Mo) (N := 54) hx hb hts i_Mo hown hK hP 0 rfl rfl 44 (by decide) (hts _ wd_1132) (fun _ h9 => h9) rfl d_Mo_piece_39 ?_
          refine lv_icmp_lt (tgt := 51) hx hb d_Mo_piece_42 rfl (fun h42 => ?_) (fun h42 => ?_)
          · obtain ⟨b, hb4, hbe⟩ := nI_of2 (x := wh) (M := 4) (n := 4) (by decide) h2 (Int32.not_lt.mp h7)
            obtain ⟨a, ha, hae⟩ := nI_of2 (x := i) (M := 15) (n := 15) (by decide) h11 (Int32.not_lt.mp h34)
            subst hae
            subst hbe
            have h42 := (nI_ltI (by omega) (by omega)).mp h42
            refine lv_aload_n hx hb d_Mo_piece_51 rfl (lv_at hl 0 rfl) ?_
            refine va_get (D := D) (ci := 13) (v := .ref (r 43)) (C := R_Mo) (T := F_Mo) (N := 54) hx hb hts i_Mo hown hK hP 0 rfl rfl 43 (by decide) (hts _ wd_1131) (fun _ h9 => h9) rfl d_Mo_piece_52 ?_
            refine lv_iconst (v := 5) hx hb d_Mo_piece_55 (by decide) ?_
            refine lv_aload_n hx hb d_Mo_piece_56 rfl (lv_at hl 0 rfl) ?_
            refine va_get (D := D) (ci := 13) (v := .int (nI np)) (C := R_Mo) (T := F_Mo) (N := 54) hx hb hts i_Mo hown hK hP 0 rfl rfl 44 (by decide) (hts _ wd_1132) (fun _ h9 => h9) rfl d_Mo_piece_57 ?_
            refine lv_iconst (v := 1) hx hb d_Mo_piece_60 (by decide) ?_
            refine lv_isub hx hb d_Mo_piece_61 ?_
            refine z_topi (w := nI (np - 1)) (pk_sub (b := 1) (by omega)) ?_
            refine lv_iload_n hx hb d_Mo_piece_62 rfl (lv_at hl 1 rfl) ?_
            refine lv_isub hx hb d_Mo_piece_63 ?_
            refine z_topi (w := nI (np - 1 - a)) (pk_sub (by omega)) ?_
            refine lv_bipush (v := 16) hx hb d_Mo_piece_64 (by decide) ?_
            refine lv_irem hx hb d_Mo_piece_66 (by decide) ?_
            refine z_topi (w := nI ((np - 1 - a) % 16)) (pk_rem (d := 16) (by omega) (by omega) (by omega)) ?_
            refine lv_imul hx hb d_Mo_piece_67 ?_
            refine z_topi (w := nI (5 * ((np - 1 - a) % 16))) (pk_mul 5 _) ?_
            refine lv_iload_n hx hb d_Mo_piece_68 rfl (lv_at hl 2 rfl) ?_
            refine lv_iadd hx hb d_Mo_piece_69 ?_
            refine z_topi (w := nI (5 * ((np - 1 - a) % 16) + b)) (nI_add _ _) ?_
            refine z_lald hx hb hK hP 1 0 rfl rfl (5 * ((np - 1 - a) % 16) + b) rfl (by omega) (by omega) d_Mo_piece_70 ?_
            have hP9 := hP.sub (ws' := [(h, .inr (13, mO r 0 si le lv pg (nI np) pl rs)), (r 43, .inl (cJ, 80, .inr (.inl dn)))]) [0, 1] rfl
            have hD9 := hD.sub (ws' := [(h, .inr (13, mO r 0 si le lv pg (nI np) pl rs)), (r 43, .inl (cJ, 80, .inr (.inl dn)))]) [0, 1] (by decide) rfl
            have hK9 := hK.sub (tys' := [(cJ, .long)]) [0] rfl
            exact W.lret (v := (dn (5 * ((np - 1 - a) % 16) + b))) hx hb hr (fun t ht hW => ⟨⟨_, 0, rfl, Or.inr ⟨hno, rfl, Or.inr ⟨a, b, rfl, ha, h42, rfl, hb4, rfl⟩⟩, ⟨by rw [ht]; exact hP9, va_K.moved hW.alike hK9, hD9⟩⟩, hS.F ht⟩) hS.2.2 d_Mo_piece_71
          · refine lv_ldc2 hx hb hown (hts _ wd_1087) d_Mo_piece_45 ?_
            refine lv_goto (tgt := 71) hx hb d_Mo_piece_48 rfl ?_
            have hP9 := hP.sub (ws' := [(h, .inr (13, mO r 0 si le lv pg (nI np) pl rs)), (r 43, .inl (cJ, 80, .inr (.inl dn)))]) [0, 1] rfl
            have hD9 := hD.sub (ws' := [(h, .inr (13, mO r 0 si le lv pg (nI np) pl rs)), (r 43, .inl (cJ, 80, .inr (.inl dn)))]) [0, 1] (by decide) rfl
            have hK9 := hK.sub (tys' := [(cJ, .long)]) [0] rfl
            exact W.lret (v := (-1)) hx hb hr (fun t ht hW => ⟨⟨_, 0, rfl, Or.inr ⟨hno, rfl, Or.inl ⟨by first | exact Or.inl h34 | exact Or.inr h42, rfl⟩⟩, ⟨by rw [ht]; exact hP9, va_K.moved hW.alike hK9, hD9⟩⟩, hS.F ht⟩) hS.2.2 d_Mo_piece_71
      · refine lv_iconst (v := 1) hx hb d_Mo_piece_14 (by decide) ?_
        refine lv_goto (tgt := 19) hx hb d_Mo_piece_15 rfl ?_
        refine va_put (D := D) (ci := 13) (v := .int 1) (ty := .int) (C := R_Mo) (T := F_Mo) (N := 54) hx hb hts i_Mo t_Mo t_Mo_ok n_Mo hown hK hP hD hS 0 rfl rfl 0 (by decide) (hts _ wd_1088) (fun _ h9 => h9) rfl (by decide +kernel) rfl rfl (Nat.le_of_ble_eq_true rfl) d_Mo_piece_19 (fun H locs hP hD hS => ?_)
        have hP : va_P D classes [(h, .inr (13, mO r 1 si le lv pg (nI np) pl rs)), (r 43, .inl (cJ, 80, .inr (.inl dn)))] H := hP
        have hD : va_D A [(h, .inr (13, mO r 1 si le lv pg (nI np) pl rs)), (r 43, .inl (cJ, 80, .inr (.inl dn)))] := hD
        refine lv_aload_n hx hb d_Mo_piece_22 rfl (lv_at hl 0 rfl) ?_
        refine va_get (D := D) (ci := 13) (v := .int 1) (C := R_Mo) (T := F_Mo) (N := 54) hx hb hts i_Mo hown hK hP 0 rfl rfl 0 (by decide) (hts _ wd_1088) (fun _ h9 => h9) rfl d_Mo_piece_23 ?_
        refine lv_if_le (tgt := 31) hx hb d_Mo_piece_26 rfl (fun h9 => absurd h9 (by decide)) (fun h26 => ?_)
        refine lv_lconst (v := 0) hx hb d_Mo_piece_29 (by decide) ?_
        have hP9 := hP.sub (ws' := [(h, .inr (13, mO r 1 si le lv pg (nI np) pl rs)), (r 43, .inl (cJ, 80, .inr (.inl dn)))]) [0, 1] rfl
        have hD9 := hD.sub (ws' := [(h, .inr (13, mO r 1 si le lv pg (nI np) pl rs)), (r 43, .inl (cJ, 80, .inr (.inl dn)))]) [0, 1] (by decide) rfl
        have hK9 := hK.sub (tys' := [(cJ, .long)]) [0] rfl
        exact W.lret (v := 0) hx hb hr (fun t ht hW => ⟨⟨_, 1, rfl, Or.inl ⟨by first | exact Or.inl h2 | exact Or.inr (Or.inl h7) | exact Or.inr (Or.inr (Int32.not_le.mp h11)), rfl, rfl⟩, ⟨by rw [ht]; exact hP9, va_K.moved hW.alike hK9, hD9⟩⟩, hS.F ht⟩) hS.2.2 d_Mo_piece_30
set_option maxHeartbeats 4000000 in
set_option maxRecDepth 100000 in
theorem c_Mo_clock (l : Launch) (D : va_G) (sz : Nat) (cJ : ClassId) (h : Nat) (r : Nat → Nat) (th si le lv pg pn pl rs : Int32) (cl : Nat → Int64) (i : Int32)  : Met l y_Mo_clock [Cond.code y_Mo_clock b_Mo_clock 2 (some .long)] ({ frames := 0, cells := 0, slots := 0, locals := 0 }) (zM [.ref h, .int i] D [(h, .inr (13, mO r th si le lv pg pn pl rs)), (r 6, .inl (cJ, 8192, .inr (.inl cl)))] [(cJ, .long)] sz) (va_Ql (fun r0 (u : Int32) => ((i < 0 ∨ 8191 < i) ∧ u = 1 ∧ r0 = 0) ∨ (∃ a9 : Nat, i = nI a9 ∧ a9 ≤ 8191 ∧ u = 0 ∧ r0 = cl a9)) (fun (u : Int32) t => zW D (va_A [(h, .inr (13, mO r th si le lv pg pn pl rs)), (r 6, .inl (cJ, 8192, .inr (.inl cl)))] sz) [(h, .inr (13, mO r u si le lv pg pn pl rs)), (r 6, .inl (cJ, 8192, .inr (.inl cl)))] [(cJ, .long)] t) (va_A [(h, .inr (13, mO r th si le lv pg pn pl rs)), (r 6, .inl (cJ, 8192, .inr (.inl cl)))] sz)) 0 0 (va_A [(h, .inr (13, mO r th si le lv pg pn pl rs)), (r 6, .inl (cJ, 8192, .inr (.inl cl)))] sz) := by
  refine Met.ofW (cc := b_Mo_clock) (maxL := 2) (ret := (some .long)) (by decide) rfl ?_
  intro p e s m args below meth cd s₁ Bd hml hv
  obtain ⟨rfl, hsz, hP, hK, hN, hD0⟩ := hv
  have hx := Bd.exec
  have hb := Bd.bytes
  have hr := Bd.returns
  have hts := hN.use (a := ([.ref h, .int i]).toArray)
  have hown : s.vm.findClass R_Mo = some m.cls := findClass_of_methodNamed Bd.named
  have hlocks := Bd.notSynchronized
  subst hsz
  have hD := hD0.self (sz := s.heap.size)
  clear hD0
  have hA : ∀ q : Nat, s.heap.size ≤ q → va_A [(h, .inr (13, mO r th si le lv pg pn pl rs)), (r 6, .inl (cJ, 8192, .inr (.inl cl)))] s.heap.size q := fun q h => Or.inr h
  have hS : va_S (va_A [(h, .inr (13, mO r th si le lv pg pn pl rs)), (r 6, .inl (cJ, 8192, .inr (.inl cl)))] s.heap.size) s.heap s.heap [] := va_S.rf
  generalize hAe : va_A [(h, .inr (13, mO r th si le lv pg pn pl rs)), (r 6, .inl (cJ, 8192, .inr (.inl cl)))] s.heap.size = A at hD hA hS ⊢
  have hP : va_P D classes [(h, .inr (13, mO r th si le lv pg pn pl rs)), (r 6, .inl (cJ, 8192, .inr (.inl cl)))] s.heap := hP
  have hl := lv_entry ([.ref h, .int i]) (n := 2) (Nat.le_of_ble_eq_true rfl)
  rw [lg_entry_eq]
  generalize (lg_sl ([.ref h, .int i]) ++ List.replicate (2 - (lg_sl ([.ref h, .int i])).length) Slot.unset).toArray = ls at hl ⊢
  have hl : lv_has ls 2 [(0, .ref h), (1, .int i)] := hl
  refine lv_aload_n hx hb d_Mo_clock_0 rfl (lv_at hl 0 rfl) ?_
  refine lv_iload_n hx hb d_Mo_clock_1 rfl (lv_at hl 1 rfl) ?_
  refine lv_if_lt (tgt := 12) hx hb d_Mo_clock_2 rfl (fun h2 => ?_) (fun h2 => ?_)
  · refine lv_iconst (v := 1) hx hb d_Mo_clock_12 (by decide) ?_
    refine lv_goto (tgt := 17) hx hb d_Mo_clock_13 rfl ?_
    refine va_put (D := D) (ci := 13) (v := .int 1) (ty := .int) (C := R_Mo) (T := F_Mo) (N := 54) hx hb hts i_Mo t_Mo t_Mo_ok n_Mo hown hK hP hD hS 0 rfl rfl 0 (by decide) (hts _ wd_1088) (fun _ h9 => h9) rfl (by decide +kernel) rfl rfl (Nat.le_of_ble_eq_true rfl) d_Mo_clock_17 (fun H locs hP hD hS => ?_)
    have hP : va_P D classes [(h, .inr (13, mO r 1 si le lv pg pn pl rs)), (r 6, .inl (cJ, 8192, .inr (.inl cl)))] H := hP
    have hD : va_D A [(h, .inr (13, mO r 1 si le lv pg pn pl rs)), (r 6, .inl (cJ, 8192, .inr (.inl cl)))] := hD
    refine lv_aload_n hx hb d_Mo_clock_20 rfl (lv_at hl 0 rfl) ?_
    refine va_get (D := D) (ci := 13) (v := .int 1) (C := R_Mo) (T := F_Mo) (N := 54) hx hb hts i_Mo hown hK hP 0 rfl rfl 0 (by decide) (hts _ wd_1088) (fun _ h9 => h9) rfl d_Mo_clock_21 ?_
    refine lv_if_le (tgt := 31) hx hb d_Mo_clock_24 rfl (fun h9 => absurd h9 (by decide)) (fun h24 => ?_)
    refine lv_lconst (v := 0) hx hb d_Mo_clock_27 (by decide) ?_
    refine lv_goto (tgt := 37) hx hb d_Mo_clock_28 rfl ?_
    have hP9 := hP.sub (ws' := [(h, .inr (13, mO r 1 si le lv pg pn pl rs)), (r 6, .inl (cJ, 8192, .inr (.inl cl)))]) [0, 1] rfl
    have hD9 := hD.sub (ws' := [(h, .inr (13, mO r 1 si le lv pg pn pl rs)), (r 6, .inl (cJ, 8192, .inr (.inl cl)))]) [0, 1] (by decide) rfl
    have hK9 := hK.sub (tys' := [(cJ, .long)]) [0] rfl
    exact W.lret (v := 0) hx hb hr (fun t ht hW => ⟨⟨_, 1, rfl, Or.inl ⟨by first | exact Or.inl h2 | exact Or.inr (Int32.not_le.mp h9), rfl, rfl⟩, ⟨by rw [ht]; exact hP9, va_K.moved hW.alike hK9, hD9⟩⟩, hS.F ht⟩) hS.2.2 d_Mo_clock_37
  · refine lv_iload_n hx hb d_Mo_clock_5 rfl (lv_at hl 1 rfl) ?_
    refine lv_sipush (v := 8191) hx hb d_Mo_clock_6 (by decide) ?_
    refine lv_icmp_le (tgt := 16) hx hb d_Mo_clock_9 rfl (fun h9 => ?_) (fun h9 => ?_)
    · obtain ⟨a, ha, hae⟩ := nI_of2 (x := i) (M := 8191) (n := 8191) (by decide) h2 h9
      subst hae
      refine lv_iconst (v := 0) hx hb d_Mo_clock_16 (by decide) ?_
      refine va_put (D := D) (ci := 13) (v := .int 0) (ty := .int) (C := R_Mo) (T := F_Mo) (N := 54) hx hb hts i_Mo t_Mo t_Mo_ok n_Mo hown hK hP hD hS 0 rfl rfl 0 (by decide) (hts _ wd_1088) (fun _ h9 => h9) rfl (by decide +kernel) rfl rfl (Nat.le_of_ble_eq_true rfl) d_Mo_clock_17 (fun H locs hP hD hS => ?_)
      have hP : va_P D classes [(h, .inr (13, mO r 0 si le lv pg pn pl rs)), (r 6, .inl (cJ, 8192, .inr (.inl cl)))] H := hP
      have hD : va_D A [(h, .inr (13, mO r 0 si le lv pg pn pl rs)), (r 6, .inl (cJ, 8192, .inr (.inl cl)))] := hD
      refine lv_aload_n hx hb d_Mo_clock_20 rfl (lv_at hl 0 rfl) ?_
      refine va_get (D := D) (ci := 13) (v := .int 0) (C := R_Mo) (T := F_Mo) (N := 54) hx hb hts i_Mo hown hK hP 0 rfl rfl 0 (by decide) (hts _ wd_1088) (fun _ h9 => h9) rfl d_Mo_clock_21 ?_
      refine lv_if_le (tgt := 31) hx hb d_Mo_clock_24 rfl (fun h24 => ?_) (fun h9 => absurd h9 (by decide))
      refine lv_aload_n hx hb d_Mo_clock_31 rfl (lv_at hl 0 rfl) ?_
      refine va_get (D := D) (ci := 13) (v := .ref (r 6)) (C := R_Mo) (T := F_Mo) (N := 54) hx hb hts i_Mo hown hK hP 0 rfl rfl 6 (by decide) (hts _ wd_1094) (fun _ h9 => h9) rfl d_Mo_clock_32 ?_
      refine lv_iload_n hx hb d_Mo_clock_35 rfl (lv_at hl 1 rfl) ?_
      refine z_lald hx hb hK hP 1 0 rfl rfl a rfl (by omega) (by omega) d_Mo_clock_36 ?_
      have hP9 := hP.sub (ws' := [(h, .inr (13, mO r 0 si le lv pg pn pl rs)), (r 6, .inl (cJ, 8192, .inr (.inl cl)))]) [0, 1] rfl
      have hD9 := hD.sub (ws' := [(h, .inr (13, mO r 0 si le lv pg pn pl rs)), (r 6, .inl (cJ, 8192, .inr (.inl cl)))]) [0, 1] (by decide) rfl
      have hK9 := hK.sub (tys' := [(cJ, .long)]) [0] rfl
      exact W.lret (v := (cl a)) hx hb hr (fun t ht hW => ⟨⟨_, 0, rfl, Or.inr ⟨a, rfl, ha, rfl, rfl⟩, ⟨by rw [ht]; exact hP9, va_K.moved hW.alike hK9, hD9⟩⟩, hS.F ht⟩) hS.2.2 d_Mo_clock_37
    · refine lv_iconst (v := 1) hx hb d_Mo_clock_12 (by decide) ?_
      refine lv_goto (tgt := 17) hx hb d_Mo_clock_13 rfl ?_
      refine va_put (D := D) (ci := 13) (v := .int 1) (ty := .int) (C := R_Mo) (T := F_Mo) (N := 54) hx hb hts i_Mo t_Mo t_Mo_ok n_Mo hown hK hP hD hS 0 rfl rfl 0 (by decide) (hts _ wd_1088) (fun _ h9 => h9) rfl (by decide +kernel) rfl rfl (Nat.le_of_ble_eq_true rfl) d_Mo_clock_17 (fun H locs hP hD hS => ?_)
      have hP : va_P D classes [(h, .inr (13, mO r 1 si le lv pg pn pl rs)), (r 6, .inl (cJ, 8192, .inr (.inl cl)))] H := hP
      have hD : va_D A [(h, .inr (13, mO r 1 si le lv pg pn pl rs)), (r 6, .inl (cJ, 8192, .inr (.inl cl)))] := hD
      refine lv_aload_n hx hb d_Mo_clock_20 rfl (lv_at hl 0 rfl) ?_
      refine va_get (D := D) (ci := 13) (v := .int 1) (C := R_Mo) (T := F_Mo) (N := 54) hx hb hts i_Mo hown hK hP 0 rfl rfl 0 (by decide) (hts _ wd_1088) (fun _ h9 => h9) rfl d_Mo_clock_21 ?_
      refine lv_if_le (tgt := 31) hx hb d_Mo_clock_24 rfl (fun h9 => absurd h9 (by decide)) (fun h24 => ?_)
      refine lv_lconst (v := 0) hx hb d_Mo_clock_27 (by decide) ?_
      refine lv_goto (tgt := 37) hx hb d_Mo_clock_28 rfl ?_
      have hP9 := hP.sub (ws' := [(h, .inr (13, mO r 1 si le lv pg pn pl rs)), (r 6, .inl (cJ, 8192, .inr (.inl cl)))]) [0, 1] rfl
      have hD9 := hD.sub (ws' := [(h, .inr (13, mO r 1 si le lv pg pn pl rs)), (r 6, .inl (cJ, 8192, .inr (.inl cl)))]) [0, 1] (by decide) rfl
      have hK9 := hK.sub (tys' := [(cJ, .long)]) [0] rfl
      exact W.lret (v := 0) hx hb hr (fun t ht hW => ⟨⟨_, 1, rfl, Or.inl ⟨by first | exact Or.inl h2 | exact Or.inr (Int32.not_le.mp h9), rfl, rfl⟩, ⟨by rw [ht]; exact hP9, va_K.moved hW.alike hK9, hD9⟩⟩, hS.F ht⟩) hS.2.2 d_Mo_clock_37
set_option maxHeartbeats 4000000 in
set_option maxRecDepth 100000 in
theorem c_Mo_plan (l : Launch) (D : va_G) (sz : Nat) (cI : ClassId) (h : Nat) (r : Nat → Nat) (th si le lv pg pn rs : Int32) (np : Nat) (pN pP pS : Nat → Int32) (i c : Int32) (hnp : np ≤ 4) : Met l y_Mo_plan [Cond.code y_Mo_plan b_Mo_plan 3 (some .int)] ({ frames := 0, cells := 0, slots := 0, locals := 0 }) (zM [.ref h, .int i, .int c] D [(h, .inr (13, mO r th si le lv pg pn (nI np) rs)), (r 46, .inl (cI, 4, .inl pN)), (r 47, .inl (cI, 4, .inl pP)), (r 48, .inl (cI, 4, .inl pS))] [(cI, .int)] sz) (va_Qi (fun r0 (u : Int32 × Nat × (Nat → Int32) × (Nat → Int32) × (Nat → Int32)) => ((i < 1 ∨ 65535 < i ∨ c < 0 ∨ 8191 < c) ∧ r0 = 0 ∧ u = (1, np, pN, pP, pS)) ∨ (¬ (i < 1 ∨ 65535 < i ∨ c < 0 ∨ 8191 < c) ∧ ((np = 4 ∧ r0 = -1 ∧ u = (0, np, pN, pP, pS)) ∨ (np < 4 ∧ r0 = nI (np + 1) ∧ u = (0, np + 1, upd pN np i, upd pP np c, upd pS np 0))))) (fun (u : Int32 × Nat × (Nat → Int32) × (Nat → Int32) × (Nat → Int32)) t => zW D (va_A [(h, .inr (13, mO r th si le lv pg pn (nI np) rs)), (r 46, .inl (cI, 4, .inl pN)), (r 47, .inl (cI, 4, .inl pP)), (r 48, .inl (cI, 4, .inl pS))] sz) [(h, .inr (13, mO r u.1 si le lv pg pn (nI u.2.1) rs)), (r 46, .inl (cI, 4, .inl u.2.2.1)), (r 47, .inl (cI, 4, .inl u.2.2.2.1)), (r 48, .inl (cI, 4, .inl u.2.2.2.2))] [(cI, .int)] t) (va_A [(h, .inr (13, mO r th si le lv pg pn (nI np) rs)), (r 46, .inl (cI, 4, .inl pN)), (r 47, .inl (cI, 4, .inl pP)), (r 48, .inl (cI, 4, .inl pS))] sz)) 0 0 (va_A [(h, .inr (13, mO r th si le lv pg pn (nI np) rs)), (r 46, .inl (cI, 4, .inl pN)), (r 47, .inl (cI, 4, .inl pP)), (r 48, .inl (cI, 4, .inl pS))] sz) := by
  refine Met.ofW (cc := b_Mo_plan) (maxL := 3) (ret := (some .int)) (by decide) rfl ?_
  intro p e s m args below meth cd s₁ Bd hml hv
  obtain ⟨rfl, hsz, hP, hK, hN, hD0⟩ := hv
  have hx := Bd.exec
  have hb := Bd.bytes
  have hr := Bd.returns
  have hts := hN.use (a := ([.ref h, .int i, .int c]).toArray)
  have hown : s.vm.findClass R_Mo = some m.cls := findClass_of_methodNamed Bd.named
  have hlocks := Bd.notSynchronized
  subst hsz
  have hD := hD0.self (sz := s.heap.size)
  clear hD0
  have hA : ∀ q : Nat, s.heap.size ≤ q → va_A [(h, .inr (13, mO r th si le lv pg pn (nI np) rs)), (r 46, .inl (cI, 4, .inl pN)), (r 47, .inl (cI, 4, .inl pP)), (r 48, .inl (cI, 4, .inl pS))] s.heap.size q := fun q h => Or.inr h
  have hS : va_S (va_A [(h, .inr (13, mO r th si le lv pg pn (nI np) rs)), (r 46, .inl (cI, 4, .inl pN)), (r 47, .inl (cI, 4, .inl pP)), (r 48, .inl (cI, 4, .inl pS))] s.heap.size) s.heap s.heap [] := va_S.rf
  generalize hAe : va_A [(h, .inr (13, mO r th si le lv pg pn (nI np) rs)), (r 46, .inl (cI, 4, .inl pN)), (r 47, .inl (cI, 4, .inl pP)), (r 48, .inl (cI, 4, .inl pS))] s.heap.size = A at hD hA hS ⊢
  have hP : va_P D classes [(h, .inr (13, mO r th si le lv pg pn (nI np) rs)), (r 46, .inl (cI, 4, .inl pN)), (r 47, .inl (cI, 4, .inl pP)), (r 48, .inl (cI, 4, .inl pS))] s.heap := hP
  have hl := lv_entry ([.ref h, .int i, .int c]) (n := 3) (Nat.le_of_ble_eq_true rfl)
  rw [lg_entry_eq]
  generalize (lg_sl ([.ref h, .int i, .int c]) ++ List.replicate (3 - (lg_sl ([.ref h, .int i, .int c])).length) Slot.unset).toArray = ls at hl ⊢
  have hl : lv_has ls 3 [(0, .ref h), (1, .int i), (2, .int c)] := hl
  refine lv_aload_n hx hb d_Mo_plan_0 rfl (lv_at hl 0 rfl) ?_
  refine lv_iload_n hx hb d_Mo_plan_1 rfl (lv_at hl 1 rfl) ?_
  refine lv_iconst (v := 1) hx hb d_Mo_plan_2 (by decide) ?_
  refine lv_icmp_lt (tgt := 24) hx hb d_Mo_plan_3 rfl (fun h3 => ?_) (fun h3 => ?_)
  · refine lv_iconst (v := 1) hx hb d_Mo_plan_24 (by decide) ?_
    refine lv_goto (tgt := 29) hx hb d_Mo_plan_25 rfl ?_
    refine va_put (D := D) (ci := 13) (v := .int 1) (ty := .int) (C := R_Mo) (T := F_Mo) (N := 54) hx hb hts i_Mo t_Mo t_Mo_ok n_Mo hown hK hP hD hS 0 rfl rfl 0 (by decide) (hts _ wd_1088) (fun _ h9 => h9) rfl (by decide +kernel) rfl rfl (Nat.le_of_ble_eq_true rfl) d_Mo_plan_29 (fun H locs hP hD hS => ?_)
    have hP : va_P D classes [(h, .inr (13, mO r 1 si le lv pg pn (nI np) rs)), (r 46, .inl (cI, 4, .inl pN)), (r 47, .inl (cI, 4, .inl pP)), (r 48, .inl (cI, 4, .inl pS))] H := hP
    have hD : va_D A [(h, .inr (13, mO r 1 si le lv pg pn (nI np) rs)), (r 46, .inl (cI, 4, .inl pN)), (r 47, .inl (cI, 4, .inl pP)), (r 48, .inl (cI, 4, .inl pS))] := hD
    refine lv_aload_n hx hb d_Mo_plan_32 rfl (lv_at hl 0 rfl) ?_
    refine va_get (D := D) (ci := 13) (v := .int 1) (C := R_Mo) (T := F_Mo) (N := 54) hx hb hts i_Mo hown hK hP 0 rfl rfl 0 (by decide) (hts _ wd_1088) (fun _ h9 => h9) rfl d_Mo_plan_33 ?_
    refine lv_if_le (tgt := 41) hx hb d_Mo_plan_36 rfl (fun h9 => absurd h9 (by decide)) (fun h36 => ?_)
    refine lv_iconst (v := 0) hx hb d_Mo_plan_39 (by decide) ?_
    have hP9 := hP.sub (ws' := [(h, .inr (13, mO r 1 si le lv pg pn (nI np) rs)), (r 46, .inl (cI, 4, .inl pN)), (r 47, .inl (cI, 4, .inl pP)), (r 48, .inl (cI, 4, .inl pS))]) [0, 1, 2, 3] rfl
    have hD9 := hD.sub (ws' := [(h, .inr (13, mO r 1 si le lv pg pn (nI np) rs)), (r 46, .inl (cI, 4, .inl pN)), (r 47, .inl (cI, 4, .inl pP)), (r 48, .inl (cI, 4, .inl pS))]) [0, 1, 2, 3] (by decide) rfl
    have hK9 := hK.sub (tys' := [(cI, .int)]) [0] rfl
    exact W.iret (v := 0) hx hb hr (fun t ht hW => ⟨⟨_, (1, np, pN, pP, pS), rfl, Or.inl ⟨by first | exact Or.inl h3 | exact Or.inr (Or.inl h10) | exact Or.inr (Or.inr (Or.inl h14)) | exact Or.inr (Or.inr (Or.inr (Int32.not_le.mp h21))), rfl, rfl⟩, ⟨by rw [ht]; exact hP9, va_K.moved hW.alike hK9, hD9⟩⟩, hS.F ht⟩) hS.2.2 d_Mo_plan_40
  · refine lv_iload_n hx hb d_Mo_plan_6 rfl (lv_at hl 1 rfl) ?_
    refine lv_ldcw hx hb hown (hts _ wd_1427) d_Mo_plan_7 ?_
    refine lv_icmp_gt (tgt := 24) hx hb d_Mo_plan_10 rfl (fun h10 => ?_) (fun h10 => ?_)
    · refine lv_iconst (v := 1) hx hb d_Mo_plan_24 (by decide) ?_
      refine lv_goto (tgt := 29) hx hb d_Mo_plan_25 rfl ?_
      refine va_put (D := D) (ci := 13) (v := .int 1) (ty := .int) (C := R_Mo) (T := F_Mo) (N := 54) hx hb hts i_Mo t_Mo t_Mo_ok n_Mo hown hK hP hD hS 0 rfl rfl 0 (by decide) (hts _ wd_1088) (fun _ h9 => h9) rfl (by decide +kernel) rfl rfl (Nat.le_of_ble_eq_true rfl) d_Mo_plan_29 (fun H locs hP hD hS => ?_)
      have hP : va_P D classes [(h, .inr (13, mO r 1 si le lv pg pn (nI np) rs)), (r 46, .inl (cI, 4, .inl pN)), (r 47, .inl (cI, 4, .inl pP)), (r 48, .inl (cI, 4, .inl pS))] H := hP
      have hD : va_D A [(h, .inr (13, mO r 1 si le lv pg pn (nI np) rs)), (r 46, .inl (cI, 4, .inl pN)), (r 47, .inl (cI, 4, .inl pP)), (r 48, .inl (cI, 4, .inl pS))] := hD
      refine lv_aload_n hx hb d_Mo_plan_32 rfl (lv_at hl 0 rfl) ?_
      refine va_get (D := D) (ci := 13) (v := .int 1) (C := R_Mo) (T := F_Mo) (N := 54) hx hb hts i_Mo hown hK hP 0 rfl rfl 0 (by decide) (hts _ wd_1088) (fun _ h9 => h9) rfl d_Mo_plan_33 ?_
      refine lv_if_le (tgt := 41) hx hb d_Mo_plan_36 rfl (fun h9 => absurd h9 (by decide)) (fun h36 => ?_)
      refine lv_iconst (v := 0) hx hb d_Mo_plan_39 (by decide) ?_
      have hP9 := hP.sub (ws' := [(h, .inr (13, mO r 1 si le lv pg pn (nI np) rs)), (r 46, .inl (cI, 4, .inl pN)), (r 47, .inl (cI, 4, .inl pP)), (r 48, .inl (cI, 4, .inl pS))]) [0, 1, 2, 3] rfl
      have hD9 := hD.sub (ws' := [(h, .inr (13, mO r 1 si le lv pg pn (nI np) rs)), (r 46, .inl (cI, 4, .inl pN)), (r 47, .inl (cI, 4, .inl pP)), (r 48, .inl (cI, 4, .inl pS))]) [0, 1, 2, 3] (by decide) rfl
      have hK9 := hK.sub (tys' := [(cI, .int)]) [0] rfl
      exact W.iret (v := 0) hx hb hr (fun t ht hW => ⟨⟨_, (1, np, pN, pP, pS), rfl, Or.inl ⟨by first | exact Or.inl h3 | exact Or.inr (Or.inl h10) | exact Or.inr (Or.inr (Or.inl h14)) | exact Or.inr (Or.inr (Or.inr (Int32.not_le.mp h21))), rfl, rfl⟩, ⟨by rw [ht]; exact hP9, va_K.moved hW.alike hK9, hD9⟩⟩, hS.F ht⟩) hS.2.2 d_Mo_plan_40
    · refine lv_iload_n hx hb d_Mo_plan_13 rfl (lv_at hl 2 rfl) ?_
      refine lv_if_lt (tgt := 24) hx hb d_Mo_plan_14 rfl (fun h14 => ?_) (fun h14 => ?_)
      · refine lv_iconst (v := 1) hx hb d_Mo_plan_24 (by decide) ?_
        refine lv_goto (tgt := 29) hx hb d_Mo_plan_25 rfl ?_
        refine va_put (D := D) (ci := 13) (v := .int 1) (ty := .int) (C := R_Mo) (T := F_Mo) (N := 54) hx hb hts i_Mo t_Mo t_Mo_ok n_Mo hown hK hP hD hS 0 rfl rfl 0 (by decide) (hts _ wd_1088) (fun _ h9 => h9) rfl (by decide +kernel) rfl rfl (Nat.le_of_ble_eq_true rfl) d_Mo_plan_29 (fun H locs hP hD hS => ?_)
        have hP : va_P D classes [(h, .inr (13, mO r 1 si le lv pg pn (nI np) rs)), (r 46, .inl (cI, 4, .inl pN)), (r 47, .inl (cI, 4, .inl pP)), (r 48, .inl (cI, 4, .inl pS))] H := hP
        have hD : va_D A [(h, .inr (13, mO r 1 si le lv pg pn (nI np) rs)), (r 46, .inl (cI, 4, .inl pN)), (r 47, .inl (cI, 4, .inl pP)), (r 48, .inl (cI, 4, .inl pS))] := hD
        refine lv_aload_n hx hb d_Mo_plan_32 rfl (lv_at hl 0 rfl) ?_
        refine va_get (D := D) (ci := 13) (v := .int 1) (C := R_Mo) (T := F_Mo) (N := 54) hx hb hts i_Mo hown hK hP 0 rfl rfl 0 (by decide) (hts _ wd_1088) (fun _ h9 => h9) rfl d_Mo_plan_33 ?_
        refine lv_if_le (tgt := 41) hx hb d_Mo_plan_36 rfl (fun h9 => absurd h9 (by decide)) (fun h36 => ?_)
        refine lv_iconst (v := 0) hx hb d_Mo_plan_39 (by decide) ?_
        have hP9 := hP.sub (ws' := [(h, .inr (13, mO r 1 si le lv pg pn (nI np) rs)), (r 46, .inl (cI, 4, .inl pN)), (r 47, .inl (cI, 4, .inl pP)), (r 48, .inl (cI, 4, .inl pS))]) [0, 1, 2, 3] rfl
        have hD9 := hD.sub (ws' := [(h, .inr (13, mO r 1 si le lv pg pn (nI np) rs)), (r 46, .inl (cI, 4, .inl pN)), (r 47, .inl (cI, 4, .inl pP)), (r 48, .inl (cI, 4, .inl pS))]) [0, 1, 2, 3] (by decide) rfl
        have hK9 := hK.sub (tys' := [(cI, .int)]) [0] rfl
        exact W.iret (v := 0) hx hb hr (fun t ht hW => ⟨⟨_, (1, np, pN, pP, pS), rfl, Or.inl ⟨by first | exact Or.inl h3 | exact Or.inr (Or.inl h10) | exact Or.inr (Or.inr (Or.inl h14)) | exact Or.inr (Or.inr (Or.inr (Int32.not_le.mp h21))), rfl, rfl⟩, ⟨by rw [ht]; exact hP9, va_K.moved hW.alike hK9, hD9⟩⟩, hS.F ht⟩) hS.2.2 d_Mo_plan_40
      · refine lv_iload_n hx hb d_Mo_plan_17 rfl (lv_at hl 2 rfl) ?_
        refine lv_sipush (v := 8191) hx hb d_Mo_plan_18 (by decide) ?_
        refine lv_icmp_le (tgt := 28) hx hb d_Mo_plan_21 rfl (fun h21 => ?_) (fun h21 => ?_)
        · have hno : ¬ (i < 1 ∨ 65535 < i ∨ c < 0 ∨ 8191 < c) := fun z => z.elim h3 (fun z => z.elim h10 (fun z => z.elim h14 (Int32.not_lt.mpr h21)))
          refine lv_iconst (v := 0) hx hb d_Mo_plan_28 (by decide) ?_
          refine va_put (D := D) (ci := 13) (v := .int 0) (ty := .int) (C := R_Mo) (T := F_Mo) (N := 54) hx hb hts i_Mo t_Mo t_Mo_ok n_Mo hown hK hP hD hS 0 rfl rfl 0 (by decide) (hts _ wd_1088) (fun _ h9 => h9) rfl (by decide +kernel) rfl rfl (Nat.le_of_ble_eq_true rfl) d_Mo_plan_29 (fun H locs hP hD hS => ?_)
          have hP : va_P D classes [(h, .inr (13, mO r 0 si le lv pg pn (nI np) rs)), (r 46, .inl (cI, 4, .inl pN)), (r 47, .inl (cI, 4, .inl pP)), (r 48, .inl (cI, 4, .inl pS))] H := hP
          have hD : va_D A [(h, .inr (13, mO r 0 si le lv pg pn (nI np) rs)), (r 46, .inl (cI, 4, .inl pN)), (r 47, .inl (cI, 4, .inl pP)), (r 48, .inl (cI, 4, .inl pS))] := hD
          refine lv_aload_n hx hb d_Mo_plan_32 rfl (lv_at hl 0 rfl) ?_
          refine va_get (D := D) (ci := 13) (v := .int 0) (C := R_Mo) (T := F_Mo) (N := 54) hx hb hts i_Mo hown hK hP 0 rfl rfl 0 (by decide) (hts _ wd_1088) (fun _ h9 => h9) rfl d_Mo_plan_33 ?_
          refine lv_if_le (tgt := 41) hx hb d_Mo_plan_36 rfl (fun h36 => ?_) (fun h9 => absurd h9 (by decide))
          refine lv_aload_n hx hb d_Mo_plan_41 rfl (lv_at hl 0 rfl) ?_
          refine va_get (D := D) (ci := 13) (v := .int (nI np)) (C := R_Mo) (T := F_Mo) (N := 54) hx hb hts i_Mo hown hK hP 0 rfl rfl 45 (by decide) (hts _ wd_1133) (fun _ h9 => h9) rfl d_Mo_plan_42 ?_
          refine lv_iconst (v := 4) hx hb d_Mo_plan_45 (by decide) ?_
          refine lv_icmp_ne (tgt := 51) hx hb d_Mo_plan_46 rfl (fun h46 => ?_) (fun h46 => ?_)
          · have h46 : np < 4 := by have : ¬ np = 4 := fun z => h46 (by rw [z]; rfl); omega
            refine lv_aload_n hx hb d_Mo_plan_51 rfl (lv_at hl 0 rfl) ?_
            refine va_get (D := D) (ci := 13) (v := .ref (r 46)) (C := R_Mo) (T := F_Mo) (N := 54) hx hb hts i_Mo hown hK hP 0 rfl rfl 46 (by decide) (hts _ wd_1134) (fun _ h9 => h9) rfl d_Mo_plan_52 ?_
            refine lv_aload_n hx hb d_Mo_plan_55 rfl (lv_at hl 0 rfl) ?_
            refine va_get (D := D) (ci := 13) (v := .int (nI np)) (C := R_Mo) (T := F_Mo) (N := 54) hx hb hts i_Mo hown hK hP 0 rfl rfl 45 (by decide) (hts _ wd_1133) (fun _ h9 => h9) rfl d_Mo_plan_56 ?_
            refine lv_iload_n hx hb d_Mo_plan_59 rfl (lv_at hl 1 rfl) ?_
            refine z_iast hx hb hK hP hD hS 1 0 rfl rfl np rfl (by omega) (by omega) d_Mo_plan_60 (fun H locs hP hD hS => ?_)
            have hP : va_P D classes [(h, .inr (13, mO r 0 si le lv pg pn (nI np) rs)), (r 46, .inl (cI, 4, .inl (upd pN np i))), (r 47, .inl (cI, 4, .inl pP)), (r 48, .inl (cI, 4, .inl pS))] H := hP
            have hD : va_D A [(h, .inr (13, mO r 0 si le lv pg pn (nI np) rs)), (r 46, .inl (cI, 4, .inl (upd pN np i))), (r 47, .inl (cI, 4, .inl pP)), (r 48, .inl (cI, 4, .inl pS))] := hD
            refine lv_aload_n hx hb d_Mo_plan_61 rfl (lv_at hl 0 rfl) ?_
            refine va_get (D := D) (ci := 13) (v := .ref (r 47)) (C := R_Mo) (T := F_Mo) (N := 54) hx hb hts i_Mo hown hK hP 0 rfl rfl 47 (by decide) (hts _ wd_1135) (fun _ h9 => h9) rfl d_Mo_plan_62 ?_
            refine lv_aload_n hx hb d_Mo_plan_65 rfl (lv_at hl 0 rfl) ?_
            refine va_get (D := D) (ci := 13) (v := .int (nI np)) (C := R_Mo) (T := F_Mo) (N := 54) hx hb hts i_Mo hown hK hP 0 rfl rfl 45 (by decide) (hts _ wd_1133) (fun _ h9 => h9) rfl d_Mo_plan_66 ?_
            refine lv_iload_n hx hb d_Mo_plan_69 rfl (lv_at hl 2 rfl) ?_
            refine z_iast hx hb hK hP hD hS 2 0 rfl rfl np rfl (by omega) (by omega) d_Mo_plan_70 (fun H locs hP hD hS => ?_)
            have hP : va_P D classes [(h, .inr (13, mO r 0 si le lv pg pn (nI np) rs)), (r 46, .inl (cI, 4, .inl (upd pN np i))), (r 47, .inl (cI, 4, .inl (upd pP np c))), (r 48, .inl (cI, 4, .inl pS))] H := hP
            have hD : va_D A [(h, .inr (13, mO r 0 si le lv pg pn (nI np) rs)), (r 46, .inl (cI, 4, .inl (upd pN np i))), (r 47, .inl (cI, 4, .inl (upd pP np c))), (r 48, .inl (cI, 4, .inl pS))] := hD
            refine lv_aload_n hx hb d_Mo_plan_71 rfl (lv_at hl 0 rfl) ?_
            refine va_get (D := D) (ci := 13) (v := .ref (r 48)) (C := R_Mo) (T := F_Mo) (N := 54) hx hb hts i_Mo hown hK hP 0 rfl rfl 48 (by decide) (hts _ wd_1136) (fun _ h9 => h9) rfl d_Mo_plan_72 ?_
            refine lv_aload_n hx hb d_Mo_plan_75 rfl (lv_at hl 0 rfl) ?_
            refine va_get (D := D) (ci := 13) (v := .int (nI np)) (C := R_Mo) (T := F_Mo) (N := 54) hx hb hts i_Mo hown hK hP 0 rfl rfl 45 (by decide) (hts _ wd_1133) (fun _ h9 => h9) rfl d_Mo_plan_76 ?_
            refine lv_iconst (v := 0) hx hb d_Mo_plan_79 (by decide) ?_
            refine z_iast hx hb hK hP hD hS 3 0 rfl rfl np rfl (by omega) (by omega) d_Mo_plan_80 (fun H locs hP hD hS => ?_)
            have hP : va_P D classes [(h, .inr (13, mO r 0 si le lv pg pn (nI np) rs)), (r 46, .inl (cI, 4, .inl (upd pN np i))), (r 47, .inl (cI, 4, .inl (upd pP np c))), (r 48, .inl (cI, 4, .inl (upd pS np 0)))] H := hP
            have hD : va_D A [(h, .inr (13, mO r 0 si le lv pg pn (nI np) rs)), (r 46, .inl (cI, 4, .inl (upd pN np i))), (r 47, .inl (cI, 4, .inl (upd pP np c))), (r 48, .inl (cI, 4, .inl (upd pS np 0)))] := hD
            refine lv_aload_n hx hb d_Mo_plan_81 rfl (lv_at hl 0 rfl) ?_
            refine lv_dup hx hb d_Mo_plan_82 rfl ?_
            refine va_get (D := D) (ci := 13) (v := .int (nI np)) (C := R_Mo) (T := F_Mo) (N := 54) hx hb hts i_Mo hown hK hP 0 rfl rfl 45 (by decide) (hts _ wd_1133) (fun _ h9 => h9) rfl d_Mo_plan_83 ?_
            refine lv_iconst (v := 1) hx hb d_Mo_plan_86 (by decide) ?_
            refine lv_iadd hx hb d_Mo_plan_87 ?_
            refine z_topi (w := nI (np + 1)) (nI_1 np) ?_
            refine va_put (D := D) (ci := 13) (v := .int (nI (np + 1))) (ty := .int) (C := R_Mo) (T := F_Mo) (N := 54) hx hb hts i_Mo t_Mo t_Mo_ok n_Mo hown hK hP hD hS 0 rfl rfl 45 (by decide) (hts _ wd_1133) (fun _ h9 => h9) rfl (by decide +kernel) rfl rfl (Nat.le_of_ble_eq_true rfl) d_Mo_plan_88 (fun H locs hP hD hS => ?_)
            have hP : va_P D classes [(h, .inr (13, mO r 0 si le lv pg pn (nI (np + 1)) rs)), (r 46, .inl (cI, 4, .inl (upd pN np i))), (r 47, .inl (cI, 4, .inl (upd pP np c))), (r 48, .inl (cI, 4, .inl (upd pS np 0)))] H := hP
            have hD : va_D A [(h, .inr (13, mO r 0 si le lv pg pn (nI (np + 1)) rs)), (r 46, .inl (cI, 4, .inl (upd pN np i))), (r 47, .inl (cI, 4, .inl (upd pP np c))), (r 48, .inl (cI, 4, .inl (upd pS np 0)))] := hD
            refine lv_aload_n hx hb d_Mo_plan_91 rfl (lv_at hl 0 rfl) ?_
            refine va_get (D := D) (ci := 13) (v := .int (nI (np + 1))) (C := R_Mo) (T := F_Mo) (N := 54) hx hb hts i_Mo hown hK hP 0 rfl rfl 45 (by decide) (hts _ wd_1133) (fun _ h9 => h9) rfl d_Mo_plan_92 ?_
            have hP9 := hP.sub (ws' := [(h, .inr (13, mO r 0 si le lv pg pn (nI (np + 1)) rs)), (r 46, .inl (cI, 4, .inl (upd pN np i))), (r 47, .inl (cI, 4, .inl (upd pP np c))), (r 48, .inl (cI, 4, .inl (upd pS np 0)))]) [0, 1, 2, 3] rfl
            have hD9 := hD.sub (ws' := [(h, .inr (13, mO r 0 si le lv pg pn (nI (np + 1)) rs)), (r 46, .inl (cI, 4, .inl (upd pN np i))), (r 47, .inl (cI, 4, .inl (upd pP np c))), (r 48, .inl (cI, 4, .inl (upd pS np 0)))]) [0, 1, 2, 3] (by decide) rfl
            have hK9 := hK.sub (tys' := [(cI, .int)]) [0] rfl
            exact W.iret (v := (nI (np + 1))) hx hb hr (fun t ht hW => ⟨⟨_, (0, np + 1, upd pN np i, upd pP np c, upd pS np 0), rfl, Or.inr ⟨hno, Or.inr ⟨h46, rfl, rfl⟩⟩, ⟨by rw [ht]; exact hP9, va_K.moved hW.alike hK9, hD9⟩⟩, hS.F ht⟩) hS.2.2 d_Mo_plan_95
          · have h46 := (nI_eq (b := 4) (by omega) (by omega)).mp h46
            refine lv_iconst (v := (-1)) hx hb d_Mo_plan_49 (by decide) ?_
            have hP9 := hP.sub (ws' := [(h, .inr (13, mO r 0 si le lv pg pn (nI np) rs)), (r 46, .inl (cI, 4, .inl pN)), (r 47, .inl (cI, 4, .inl pP)), (r 48, .inl (cI, 4, .inl pS))]) [0, 1, 2, 3] rfl
            have hD9 := hD.sub (ws' := [(h, .inr (13, mO r 0 si le lv pg pn (nI np) rs)), (r 46, .inl (cI, 4, .inl pN)), (r 47, .inl (cI, 4, .inl pP)), (r 48, .inl (cI, 4, .inl pS))]) [0, 1, 2, 3] (by decide) rfl
            have hK9 := hK.sub (tys' := [(cI, .int)]) [0] rfl
            exact W.iret (v := (-1)) hx hb hr (fun t ht hW => ⟨⟨_, (0, np, pN, pP, pS), rfl, Or.inr ⟨hno, Or.inl ⟨h46, rfl, rfl⟩⟩, ⟨by rw [ht]; exact hP9, va_K.moved hW.alike hK9, hD9⟩⟩, hS.F ht⟩) hS.2.2 d_Mo_plan_50
        · refine lv_iconst (v := 1) hx hb d_Mo_plan_24 (by decide) ?_
          refine lv_goto (tgt := 29) hx hb d_Mo_plan_25 rfl ?_
          refine va_put (D := D) (ci := 13) (v := .int 1) (ty := .int) (C := R_Mo) (T := F_Mo) (N := 54) hx hb hts i_Mo t_Mo t_Mo_ok n_Mo hown hK hP hD hS 0 rfl rfl 0 (by decide) (hts _ wd_1088) (fun _ h9 => h9) rfl (by decide +kernel) rfl rfl (Nat.le_of_ble_eq_true rfl) d_Mo_plan_29 (fun H locs hP hD hS => ?_)
          have hP : va_P D classes [(h, .inr (13, mO r 1 si le lv pg pn (nI np) rs)), (r 46, .inl (cI, 4, .inl pN)), (r 47, .inl (cI, 4, .inl pP)), (r 48, .inl (cI, 4, .inl pS))] H := hP
          have hD : va_D A [(h, .inr (13, mO r 1 si le lv pg pn (nI np) rs)), (r 46, .inl (cI, 4, .inl pN)), (r 47, .inl (cI, 4, .inl pP)), (r 48, .inl (cI, 4, .inl pS))] := hD
          refine lv_aload_n hx hb d_Mo_plan_32 rfl (lv_at hl 0 rfl) ?_
          refine va_get (D := D) (ci := 13) (v := .int 1) (C := R_Mo) (T := F_Mo) (N := 54) hx hb hts i_Mo hown hK hP 0 rfl rfl 0 (by decide) (hts _ wd_1088) (fun _ h9 => h9) rfl d_Mo_plan_33 ?_
          refine lv_if_le (tgt := 41) hx hb d_Mo_plan_36 rfl (fun h9 => absurd h9 (by decide)) (fun h36 => ?_)
          refine lv_iconst (v := 0) hx hb d_Mo_plan_39 (by decide) ?_
          have hP9 := hP.sub (ws' := [(h, .inr (13, mO r 1 si le lv pg pn (nI np) rs)), (r 46, .inl (cI, 4, .inl pN)), (r 47, .inl (cI, 4, .inl pP)), (r 48, .inl (cI, 4, .inl pS))]) [0, 1, 2, 3] rfl
          have hD9 := hD.sub (ws' := [(h, .inr (13, mO r 1 si le lv pg pn (nI np) rs)), (r 46, .inl (cI, 4, .inl pN)), (r 47, .inl (cI, 4, .inl pP)), (r 48, .inl (cI, 4, .inl pS))]) [0, 1, 2, 3] (by decide) rfl
          have hK9 := hK.sub (tys' := [(cI, .int)]) [0] rfl
          exact W.iret (v := 0) hx hb hr (fun t ht hW => ⟨⟨_, (1, np, pN, pP, pS), rfl, Or.inl ⟨by first | exact Or.inl h3 | exact Or.inr (Or.inl h10) | exact Or.inr (Or.inr (Or.inl h14)) | exact Or.inr (Or.inr (Or.inr (Int32.not_le.mp h21))), rfl, rfl⟩, ⟨by rw [ht]; exact hP9, va_K.moved hW.alike hK9, hD9⟩⟩, hS.F ht⟩) hS.2.2 d_Mo_plan_40
set_option maxHeartbeats 4000000 in
set_option maxRecDepth 100000 in
theorem c_Mo_addStream (l : Launch) (D : va_G) (sz : Nat) (cI : ClassId) (h : Nat) (r : Nat → Nat) (th si le lv pg pn rs : Int32) (np : Nat) (pS pT pQ : Nat → Int32) (ns : Nat → Nat) (i ty c : Int32) (hnp : np ≤ 4) (hns : ∀ k, k < np → pS k = nI (ns k) ∧ ns k ≤ 4) : Met l y_Mo_addStream [Cond.code y_Mo_addStream b_Mo_addStream 4 (some .int)] ({ frames := 0, cells := 0, slots := 0, locals := 0 }) (zM [.ref h, .int i, .int ty, .int c] D [(h, .inr (13, mO r th si le lv pg pn (nI np) rs)), (r 48, .inl (cI, 4, .inl pS)), (r 49, .inl (cI, 16, .inl pT)), (r 50, .inl (cI, 16, .inl pQ))] [(cI, .int)] sz) (va_Qi (fun r0 (u : Int32 × (Nat → Int32) × (Nat → Int32) × (Nat → Int32)) => ((i < 0 ∨ ¬ i < nI np) ∧ r0 = 0 ∧ u = (1, pS, pT, pQ)) ∨ (∃ a9 : Nat, i = nI a9 ∧ a9 < np ∧ (((ty < 0 ∨ 255 < ty ∨ c < 0 ∨ 8191 < c) ∧ r0 = 0 ∧ u = (2, pS, pT, pQ)) ∨ (¬ (ty < 0 ∨ 255 < ty ∨ c < 0 ∨ 8191 < c) ∧ ((ns a9 = 4 ∧ r0 = -1 ∧ u = (0, pS, pT, pQ)) ∨ (ns a9 < 4 ∧ r0 = nI (ns a9 + 1) ∧ u = (0, upd pS a9 (nI (ns a9 + 1)), upd pT (4 * a9 + ns a9) ty, upd pQ (4 * a9 + ns a9) c))))))) (fun (u : Int32 × (Nat → Int32) × (Nat → Int32) × (Nat → Int32)) t => zW D (va_A [(h, .inr (13, mO r th si le lv pg pn (nI np) rs)), (r 48, .inl (cI, 4, .inl pS)), (r 49, .inl (cI, 16, .inl pT)), (r 50, .inl (cI, 16, .inl pQ))] sz) [(h, .inr (13, mO r u.1 si le lv pg pn (nI np) rs)), (r 48, .inl (cI, 4, .inl u.2.1)), (r 49, .inl (cI, 16, .inl u.2.2.1)), (r 50, .inl (cI, 16, .inl u.2.2.2))] [(cI, .int)] t) (va_A [(h, .inr (13, mO r th si le lv pg pn (nI np) rs)), (r 48, .inl (cI, 4, .inl pS)), (r 49, .inl (cI, 16, .inl pT)), (r 50, .inl (cI, 16, .inl pQ))] sz)) 0 0 (va_A [(h, .inr (13, mO r th si le lv pg pn (nI np) rs)), (r 48, .inl (cI, 4, .inl pS)), (r 49, .inl (cI, 16, .inl pT)), (r 50, .inl (cI, 16, .inl pQ))] sz) := by
  refine Met.ofW (cc := b_Mo_addStream) (maxL := 4) (ret := (some .int)) (by decide) rfl ?_
  intro p e s m args below meth cd s₁ Bd hml hv
  obtain ⟨rfl, hsz, hP, hK, hN, hD0⟩ := hv
  have hx := Bd.exec
  have hb := Bd.bytes
  have hr := Bd.returns
  have hts := hN.use (a := ([.ref h, .int i, .int ty, .int c]).toArray)
  have hown : s.vm.findClass R_Mo = some m.cls := findClass_of_methodNamed Bd.named
  have hlocks := Bd.notSynchronized
  subst hsz
  have hD := hD0.self (sz := s.heap.size)
  clear hD0
  have hA : ∀ q : Nat, s.heap.size ≤ q → va_A [(h, .inr (13, mO r th si le lv pg pn (nI np) rs)), (r 48, .inl (cI, 4, .inl pS)), (r 49, .inl (cI, 16, .inl pT)), (r 50, .inl (cI, 16, .inl pQ))] s.heap.size q := fun q h => Or.inr h
  have hS : va_S (va_A [(h, .inr (13, mO r th si le lv pg pn (nI np) rs)), (r 48, .inl (cI, 4, .inl pS)), (r 49, .inl (cI, 16, .inl pT)), (r 50, .inl (cI, 16, .inl pQ))] s.heap.size) s.heap s.heap [] := va_S.rf
  generalize hAe : va_A [(h, .inr (13, mO r th si le lv pg pn (nI np) rs)), (r 48, .inl (cI, 4, .inl pS)), (r 49, .inl (cI, 16, .inl pT)), (r 50, .inl (cI, 16, .inl pQ))] s.heap.size = A at hD hA hS ⊢
  have hP : va_P D classes [(h, .inr (13, mO r th si le lv pg pn (nI np) rs)), (r 48, .inl (cI, 4, .inl pS)), (r 49, .inl (cI, 16, .inl pT)), (r 50, .inl (cI, 16, .inl pQ))] s.heap := hP
  have hl := lv_entry ([.ref h, .int i, .int ty, .int c]) (n := 4) (Nat.le_of_ble_eq_true rfl)
  rw [lg_entry_eq]
  generalize (lg_sl ([.ref h, .int i, .int ty, .int c]) ++ List.replicate (4 - (lg_sl ([.ref h, .int i, .int ty, .int c])).length) Slot.unset).toArray = ls at hl ⊢
  have hl : lv_has ls 4 [(0, .ref h), (1, .int i), (2, .int ty), (3, .int c)] := hl
  refine lv_aload_n hx hb d_Mo_addStream_0 rfl (lv_at hl 0 rfl) ?_
  refine lv_iload_n hx hb d_Mo_addStream_1 rfl (lv_at hl 1 rfl) ?_
  refine lv_if_lt (tgt := 13) hx hb d_Mo_addStream_2 rfl (fun h2 => ?_) (fun h2 => ?_)
  · refine lv_iconst (v := 1) hx hb d_Mo_addStream_13 (by decide) ?_
    refine lv_goto (tgt := 44) hx hb d_Mo_addStream_14 rfl ?_
    refine va_put (D := D) (ci := 13) (v := .int 1) (ty := .int) (C := R_Mo) (T := F_Mo) (N := 54) hx hb hts i_Mo t_Mo t_Mo_ok n_Mo hown hK hP hD hS 0 rfl rfl 0 (by decide) (hts _ wd_1088) (fun _ h9 => h9) rfl (by decide +kernel) rfl rfl (Nat.le_of_ble_eq_true rfl) d_Mo_addStream_44 (fun H locs hP hD hS => ?_)
    have hP : va_P D classes [(h, .inr (13, mO r 1 si le lv pg pn (nI np) rs)), (r 48, .inl (cI, 4, .inl pS)), (r 49, .inl (cI, 16, .inl pT)), (r 50, .inl (cI, 16, .inl pQ))] H := hP
    have hD : va_D A [(h, .inr (13, mO r 1 si le lv pg pn (nI np) rs)), (r 48, .inl (cI, 4, .inl pS)), (r 49, .inl (cI, 16, .inl pT)), (r 50, .inl (cI, 16, .inl pQ))] := hD
    refine lv_aload_n hx hb d_Mo_addStream_47 rfl (lv_at hl 0 rfl) ?_
    refine va_get (D := D) (ci := 13) (v := .int 1) (C := R_Mo) (T := F_Mo) (N := 54) hx hb hts i_Mo hown hK hP 0 rfl rfl 0 (by decide) (hts _ wd_1088) (fun _ h9 => h9) rfl d_Mo_addStream_48 ?_
    refine lv_if_le (tgt := 56) hx hb d_Mo_addStream_51 rfl (fun h9 => absurd h9 (by decide)) (fun h51 => ?_)
    refine lv_iconst (v := 0) hx hb d_Mo_addStream_54 (by decide) ?_
    have hP9 := hP.sub (ws' := [(h, .inr (13, mO r 1 si le lv pg pn (nI np) rs)), (r 48, .inl (cI, 4, .inl pS)), (r 49, .inl (cI, 16, .inl pT)), (r 50, .inl (cI, 16, .inl pQ))]) [0, 1, 2, 3] rfl
    have hD9 := hD.sub (ws' := [(h, .inr (13, mO r 1 si le lv pg pn (nI np) rs)), (r 48, .inl (cI, 4, .inl pS)), (r 49, .inl (cI, 16, .inl pT)), (r 50, .inl (cI, 16, .inl pQ))]) [0, 1, 2, 3] (by decide) rfl
    have hK9 := hK.sub (tys' := [(cI, .int)]) [0] rfl
    exact W.iret (v := 0) hx hb hr (fun t ht hW => ⟨⟨_, (1, pS, pT, pQ), rfl, Or.inl ⟨by first | exact Or.inl h2 | exact Or.inr h10, rfl, rfl⟩, ⟨by rw [ht]; exact hP9, va_K.moved hW.alike hK9, hD9⟩⟩, hS.F ht⟩) hS.2.2 d_Mo_addStream_55
  · refine lv_iload_n hx hb d_Mo_addStream_5 rfl (lv_at hl 1 rfl) ?_
    refine lv_aload_n hx hb d_Mo_addStream_6 rfl (lv_at hl 0 rfl) ?_
    refine va_get (D := D) (ci := 13) (v := .int (nI np)) (C := R_Mo) (T := F_Mo) (N := 54) hx hb hts i_Mo hown hK hP 0 rfl rfl 45 (by decide) (hts _ wd_1133) (fun _ h9 => h9) rfl d_Mo_addStream_7 ?_
    refine lv_icmp_lt (tgt := 17) hx hb d_Mo_addStream_10 rfl (fun h10 => ?_) (fun h10 => ?_)
    · obtain ⟨a, ha, hae⟩ := z_in h2 h10 (by omega)
      subst hae
      have hnj := hns a ha
      refine lv_iload_n hx hb d_Mo_addStream_17 rfl (lv_at hl 2 rfl) ?_
      refine lv_if_lt (tgt := 39) hx hb d_Mo_addStream_18 rfl (fun h18 => ?_) (fun h18 => ?_)
      · refine lv_iconst (v := 2) hx hb d_Mo_addStream_39 (by decide) ?_
        refine lv_goto (tgt := 44) hx hb d_Mo_addStream_40 rfl ?_
        refine va_put (D := D) (ci := 13) (v := .int 2) (ty := .int) (C := R_Mo) (T := F_Mo) (N := 54) hx hb hts i_Mo t_Mo t_Mo_ok n_Mo hown hK hP hD hS 0 rfl rfl 0 (by decide) (hts _ wd_1088) (fun _ h9 => h9) rfl (by decide +kernel) rfl rfl (Nat.le_of_ble_eq_true rfl) d_Mo_addStream_44 (fun H locs hP hD hS => ?_)
        have hP : va_P D classes [(h, .inr (13, mO r 2 si le lv pg pn (nI np) rs)), (r 48, .inl (cI, 4, .inl pS)), (r 49, .inl (cI, 16, .inl pT)), (r 50, .inl (cI, 16, .inl pQ))] H := hP
        have hD : va_D A [(h, .inr (13, mO r 2 si le lv pg pn (nI np) rs)), (r 48, .inl (cI, 4, .inl pS)), (r 49, .inl (cI, 16, .inl pT)), (r 50, .inl (cI, 16, .inl pQ))] := hD
        refine lv_aload_n hx hb d_Mo_addStream_47 rfl (lv_at hl 0 rfl) ?_
        refine va_get (D := D) (ci := 13) (v := .int 2) (C := R_Mo) (T := F_Mo) (N := 54) hx hb hts i_Mo hown hK hP 0 rfl rfl 0 (by decide) (hts _ wd_1088) (fun _ h9 => h9) rfl d_Mo_addStream_48 ?_
        refine lv_if_le (tgt := 56) hx hb d_Mo_addStream_51 rfl (fun h9 => absurd h9 (by decide)) (fun h51 => ?_)
        refine lv_iconst (v := 0) hx hb d_Mo_addStream_54 (by decide) ?_
        have hP9 := hP.sub (ws' := [(h, .inr (13, mO r 2 si le lv pg pn (nI np) rs)), (r 48, .inl (cI, 4, .inl pS)), (r 49, .inl (cI, 16, .inl pT)), (r 50, .inl (cI, 16, .inl pQ))]) [0, 1, 2, 3] rfl
        have hD9 := hD.sub (ws' := [(h, .inr (13, mO r 2 si le lv pg pn (nI np) rs)), (r 48, .inl (cI, 4, .inl pS)), (r 49, .inl (cI, 16, .inl pT)), (r 50, .inl (cI, 16, .inl pQ))]) [0, 1, 2, 3] (by decide) rfl
        have hK9 := hK.sub (tys' := [(cI, .int)]) [0] rfl
        exact W.iret (v := 0) hx hb hr (fun t ht hW => ⟨⟨_, (2, pS, pT, pQ), rfl, Or.inr ⟨a, rfl, ha, Or.inl ⟨by first | exact Or.inl h18 | exact Or.inr (Or.inl h25) | exact Or.inr (Or.inr (Or.inl h29)) | exact Or.inr (Or.inr (Or.inr (Int32.not_le.mp h36))), rfl, rfl⟩⟩, ⟨by rw [ht]; exact hP9, va_K.moved hW.alike hK9, hD9⟩⟩, hS.F ht⟩) hS.2.2 d_Mo_addStream_55
      · refine lv_iload_n hx hb d_Mo_addStream_21 rfl (lv_at hl 2 rfl) ?_
        refine lv_sipush (v := 255) hx hb d_Mo_addStream_22 (by decide) ?_
        refine lv_icmp_gt (tgt := 39) hx hb d_Mo_addStream_25 rfl (fun h25 => ?_) (fun h25 => ?_)
        · refine lv_iconst (v := 2) hx hb d_Mo_addStream_39 (by decide) ?_
          refine lv_goto (tgt := 44) hx hb d_Mo_addStream_40 rfl ?_
          refine va_put (D := D) (ci := 13) (v := .int 2) (ty := .int) (C := R_Mo) (T := F_Mo) (N := 54) hx hb hts i_Mo t_Mo t_Mo_ok n_Mo hown hK hP hD hS 0 rfl rfl 0 (by decide) (hts _ wd_1088) (fun _ h9 => h9) rfl (by decide +kernel) rfl rfl (Nat.le_of_ble_eq_true rfl) d_Mo_addStream_44 (fun H locs hP hD hS => ?_)
          have hP : va_P D classes [(h, .inr (13, mO r 2 si le lv pg pn (nI np) rs)), (r 48, .inl (cI, 4, .inl pS)), (r 49, .inl (cI, 16, .inl pT)), (r 50, .inl (cI, 16, .inl pQ))] H := hP
          have hD : va_D A [(h, .inr (13, mO r 2 si le lv pg pn (nI np) rs)), (r 48, .inl (cI, 4, .inl pS)), (r 49, .inl (cI, 16, .inl pT)), (r 50, .inl (cI, 16, .inl pQ))] := hD
          refine lv_aload_n hx hb d_Mo_addStream_47 rfl (lv_at hl 0 rfl) ?_
          refine va_get (D := D) (ci := 13) (v := .int 2) (C := R_Mo) (T := F_Mo) (N := 54) hx hb hts i_Mo hown hK hP 0 rfl rfl 0 (by decide) (hts _ wd_1088) (fun _ h9 => h9) rfl d_Mo_addStream_48 ?_
          refine lv_if_le (tgt := 56) hx hb d_Mo_addStream_51 rfl (fun h9 => absurd h9 (by decide)) (fun h51 => ?_)
          refine lv_iconst (v := 0) hx hb d_Mo_addStream_54 (by decide) ?_
          have hP9 := hP.sub (ws' := [(h, .inr (13, mO r 2 si le lv pg pn (nI np) rs)), (r 48, .inl (cI, 4, .inl pS)), (r 49, .inl (cI, 16, .inl pT)), (r 50, .inl (cI, 16, .inl pQ))]) [0, 1, 2, 3] rfl
          have hD9 := hD.sub (ws' := [(h, .inr (13, mO r 2 si le lv pg pn (nI np) rs)), (r 48, .inl (cI, 4, .inl pS)), (r 49, .inl (cI, 16, .inl pT)), (r 50, .inl (cI, 16, .inl pQ))]) [0, 1, 2, 3] (by decide) rfl
          have hK9 := hK.sub (tys' := [(cI, .int)]) [0] rfl
          exact W.iret (v := 0) hx hb hr (fun t ht hW => ⟨⟨_, (2, pS, pT, pQ), rfl, Or.inr ⟨a, rfl, ha, Or.inl ⟨by first | exact Or.inl h18 | exact Or.inr (Or.inl h25) | exact Or.inr (Or.inr (Or.inl h29)) | exact Or.inr (Or.inr (Or.inr (Int32.not_le.mp h36))), rfl, rfl⟩⟩, ⟨by rw [ht]; exact hP9, va_K.moved hW.alike hK9, hD9⟩⟩, hS.F ht⟩) hS.2.2 d_Mo_addStream_55
        · refine lv_iload_n hx hb d_Mo_addStream_28 rfl (lv_at hl 3 rfl) ?_
          refine lv_if_lt (tgt := 39) hx hb d_Mo_addStream_29 rfl (fun h29 => ?_) (fun h29 => ?_)
          · refine lv_iconst (v := 2) hx hb d_Mo_addStream_39 (by decide) ?_
            refine lv_goto (tgt := 44) hx hb d_Mo_addStream_40 rfl ?_
            refine va_put (D := D) (ci := 13) (v := .int 2) (ty := .int) (C := R_Mo) (T := F_Mo) (N := 54) hx hb hts i_Mo t_Mo t_Mo_ok n_Mo hown hK hP hD hS 0 rfl rfl 0 (by decide) (hts _ wd_1088) (fun _ h9 => h9) rfl (by decide +kernel) rfl rfl (Nat.le_of_ble_eq_true rfl) d_Mo_addStream_44 (fun H locs hP hD hS => ?_)
            have hP : va_P D classes [(h, .inr (13, mO r 2 si le lv pg pn (nI np) rs)), (r 48, .inl (cI, 4, .inl pS)), (r 49, .inl (cI, 16, .inl pT)), (r 50, .inl (cI, 16, .inl pQ))] H := hP
            have hD : va_D A [(h, .inr (13, mO r 2 si le lv pg pn (nI np) rs)), (r 48, .inl (cI, 4, .inl pS)), (r 49, .inl (cI, 16, .inl pT)), (r 50, .inl (cI, 16, .inl pQ))] := hD
            refine lv_aload_n hx hb d_Mo_addStream_47 rfl (lv_at hl 0 rfl) ?_
            refine va_get (D := D) (ci := 13) (v := .int 2) (C := R_Mo) (T := F_Mo) (N := 54) hx hb hts i_Mo hown hK hP 0 rfl rfl 0 (by decide) (hts _ wd_1088) (fun _ h9 => h9) rfl d_Mo_addStream_48 ?_
            refine lv_if_le (tgt := 56) hx hb d_Mo_addStream_51 rfl (fun h9 => absurd h9 (by decide)) (fun h51 => ?_)
            refine lv_iconst (v := 0) hx hb d_Mo_addStream_54 (by decide) ?_
            have hP9 := hP.sub (ws' := [(h, .inr (13, mO r 2 si le lv pg pn (nI np) rs)), (r 48, .inl (cI, 4, .inl pS)), (r 49, .inl (cI, 16, .inl pT)), (r 50, .inl (cI, 16, .inl pQ))]) [0, 1, 2, 3] rfl
            have hD9 := hD.sub (ws' := [(h, .inr (13, mO r 2 si le lv pg pn (nI np) rs)), (r 48, .inl (cI, 4, .inl pS)), (r 49, .inl (cI, 16, .inl pT)), (r 50, .inl (cI, 16, .inl pQ))]) [0, 1, 2, 3] (by decide) rfl
            have hK9 := hK.sub (tys' := [(cI, .int)]) [0] rfl
            exact W.iret (v := 0) hx hb hr (fun t ht hW => ⟨⟨_, (2, pS, pT, pQ), rfl, Or.inr ⟨a, rfl, ha, Or.inl ⟨by first | exact Or.inl h18 | exact Or.inr (Or.inl h25) | exact Or.inr (Or.inr (Or.inl h29)) | exact Or.inr (Or.inr (Or.inr (Int32.not_le.mp h36))), rfl, rfl⟩⟩, ⟨by rw [ht]; exact hP9, va_K.moved hW.alike hK9, hD9⟩⟩, hS.F ht⟩) hS.2.2 d_Mo_addStream_55
          · refine lv_iload_n hx hb d_Mo_addStream_32 rfl (lv_at hl 3 rfl) ?_
            refine lv_sipush (v := 8191) hx hb d_Mo_addStream_33 (by decide) ?_
            refine lv_icmp_le (tgt := 43) hx hb d_Mo_addStream_36 rfl (fun h36 => ?_) (fun h36 => ?_)
            · have hno : ¬ (ty < 0 ∨ 255 < ty ∨ c < 0 ∨ 8191 < c) := fun z => z.elim h18 (fun z => z.elim h25 (fun z => z.elim h29 (Int32.not_lt.mpr h36)))
              refine lv_iconst (v := 0) hx hb d_Mo_addStream_43 (by decide) ?_
              refine va_put (D := D) (ci := 13) (v := .int 0) (ty := .int) (C := R_Mo) (T := F_Mo) (N := 54) hx hb hts i_Mo t_Mo t_Mo_ok n_Mo hown hK hP hD hS 0 rfl rfl 0 (by decide) (hts _ wd_1088) (fun _ h9 => h9) rfl (by decide +kernel) rfl rfl (Nat.le_of_ble_eq_true rfl) d_Mo_addStream_44 (fun H locs hP hD hS => ?_)
              have hP : va_P D classes [(h, .inr (13, mO r 0 si le lv pg pn (nI np) rs)), (r 48, .inl (cI, 4, .inl pS)), (r 49, .inl (cI, 16, .inl pT)), (r 50, .inl (cI, 16, .inl pQ))] H := hP
              have hD : va_D A [(h, .inr (13, mO r 0 si le lv pg pn (nI np) rs)), (r 48, .inl (cI, 4, .inl pS)), (r 49, .inl (cI, 16, .inl pT)), (r 50, .inl (cI, 16, .inl pQ))] := hD
              refine lv_aload_n hx hb d_Mo_addStream_47 rfl (lv_at hl 0 rfl) ?_
              refine va_get (D := D) (ci := 13) (v := .int 0) (C := R_Mo) (T := F_Mo) (N := 54) hx hb hts i_Mo hown hK hP 0 rfl rfl 0 (by decide) (hts _ wd_1088) (fun _ h9 => h9) rfl d_Mo_addStream_48 ?_
              refine lv_if_le (tgt := 56) hx hb d_Mo_addStream_51 rfl (fun h51 => ?_) (fun h9 => absurd h9 (by decide))
              refine lv_aload_n hx hb d_Mo_addStream_56 rfl (lv_at hl 0 rfl) ?_
              refine va_get (D := D) (ci := 13) (v := .ref (r 48)) (C := R_Mo) (T := F_Mo) (N := 54) hx hb hts i_Mo hown hK hP 0 rfl rfl 48 (by decide) (hts _ wd_1136) (fun _ h9 => h9) rfl d_Mo_addStream_57 ?_
              refine lv_iload_n hx hb d_Mo_addStream_60 rfl (lv_at hl 1 rfl) ?_
              refine z_iald hx hb hK hP 1 0 rfl rfl a rfl (by omega) (by omega) d_Mo_addStream_61 ?_
              refine z_topi (w := nI (ns a)) hnj.1 ?_
              refine lv_iconst (v := 4) hx hb d_Mo_addStream_62 (by decide) ?_
              refine lv_icmp_ne (tgt := 68) hx hb d_Mo_addStream_63 rfl (fun h63 => ?_) (fun h63 => ?_)
              · have h63 : ns a < 4 := by have : ¬ ns a = 4 := fun z => h63 (by rw [z]; rfl); omega
                refine lv_aload_n hx hb d_Mo_addStream_68 rfl (lv_at hl 0 rfl) ?_
                refine va_get (D := D) (ci := 13) (v := .ref (r 49)) (C := R_Mo) (T := F_Mo) (N := 54) hx hb hts i_Mo hown hK hP 0 rfl rfl 49 (by decide) (hts _ wd_1137) (fun _ h9 => h9) rfl d_Mo_addStream_69 ?_
                refine lv_iconst (v := 4) hx hb d_Mo_addStream_72 (by decide) ?_
                refine lv_iload_n hx hb d_Mo_addStream_73 rfl (lv_at hl 1 rfl) ?_
                refine lv_imul hx hb d_Mo_addStream_74 ?_
                refine z_topi (w := nI (4 * a)) (pk_mul 4 _) ?_
                refine lv_aload_n hx hb d_Mo_addStream_75 rfl (lv_at hl 0 rfl) ?_
                refine va_get (D := D) (ci := 13) (v := .ref (r 48)) (C := R_Mo) (T := F_Mo) (N := 54) hx hb hts i_Mo hown hK hP 0 rfl rfl 48 (by decide) (hts _ wd_1136) (fun _ h9 => h9) rfl d_Mo_addStream_76 ?_
                refine lv_iload_n hx hb d_Mo_addStream_79 rfl (lv_at hl 1 rfl) ?_
                refine z_iald hx hb hK hP 1 0 rfl rfl a rfl (by omega) (by omega) d_Mo_addStream_80 ?_
                refine z_topi (w := nI (ns a)) hnj.1 ?_
                refine lv_iadd hx hb d_Mo_addStream_81 ?_
                refine z_topi (w := nI (4 * a + ns a)) (nI_add _ _) ?_
                refine lv_iload_n hx hb d_Mo_addStream_82 rfl (lv_at hl 2 rfl) ?_
                refine z_iast hx hb hK hP hD hS 2 0 rfl rfl (4 * a + ns a) rfl (by omega) (by omega) d_Mo_addStream_83 (fun H locs hP hD hS => ?_)
                have hP : va_P D classes [(h, .inr (13, mO r 0 si le lv pg pn (nI np) rs)), (r 48, .inl (cI, 4, .inl pS)), (r 49, .inl (cI, 16, .inl (upd pT (4 * a + ns a) ty))), (r 50, .inl (cI, 16, .inl pQ))] H := hP
                have hD : va_D A [(h, .inr (13, mO r 0 si le lv pg pn (nI np) rs)), (r 48, .inl (cI, 4, .inl pS)), (r 49, .inl (cI, 16, .inl (upd pT (4 * a + ns a) ty))), (r 50, .inl (cI, 16, .inl pQ))] := hD
                refine lv_aload_n hx hb d_Mo_addStream_84 rfl (lv_at hl 0 rfl) ?_
                refine va_get (D := D) (ci := 13) (v := .ref (r 50)) (C := R_Mo) (T := F_Mo) (N := 54) hx hb hts i_Mo hown hK hP 0 rfl rfl 50 (by decide) (hts _ wd_1138) (fun _ h9 => h9) rfl d_Mo_addStream_85 ?_
                refine lv_iconst (v := 4) hx hb d_Mo_addStream_88 (by decide) ?_
                refine lv_iload_n hx hb d_Mo_addStream_89 rfl (lv_at hl 1 rfl) ?_
                refine lv_imul hx hb d_Mo_addStream_90 ?_
                refine z_topi (w := nI (4 * a)) (pk_mul 4 _) ?_
                refine lv_aload_n hx hb d_Mo_addStream_91 rfl (lv_at hl 0 rfl) ?_
                refine va_get (D := D) (ci := 13) (v := .ref (r 48)) (C := R_Mo) (T := F_Mo) (N := 54) hx hb hts i_Mo hown hK hP 0 rfl rfl 48 (by decide) (hts _ wd_1136) (fun _ h9 => h9) rfl d_Mo_addStream_92 ?_
                refine lv_iload_n hx hb d_Mo_addStream_95 rfl (lv_at hl 1 rfl) ?_
                refine z_iald hx hb hK hP 1 0 rfl rfl a rfl (by omega) (by omega) d_Mo_addStream_96 ?_
                refine z_topi (w := nI (ns a)) hnj.1 ?_
                refine lv_iadd hx hb d_Mo_addStream_97 ?_
                refine z_topi (w := nI (4 * a + ns a)) (nI_add _ _) ?_
                refine lv_iload_n hx hb d_Mo_addStream_98 rfl (lv_at hl 3 rfl) ?_
                refine z_iast hx hb hK hP hD hS 3 0 rfl rfl (4 * a + ns a) rfl (by omega) (by omega) d_Mo_addStream_99 (fun H locs hP hD hS => ?_)
                have hP : va_P D classes [(h, .inr (13, mO r 0 si le lv pg pn (nI np) rs)), (r 48, .inl (cI, 4, .inl pS)), (r 49, .inl (cI, 16, .inl (upd pT (4 * a + ns a) ty))), (r 50, .inl (cI, 16, .inl (upd pQ (4 * a + ns a) c)))] H := hP
                have hD : va_D A [(h, .inr (13, mO r 0 si le lv pg pn (nI np) rs)), (r 48, .inl (cI, 4, .inl pS)), (r 49, .inl (cI, 16, .inl (upd pT (4 * a + ns a) ty))), (r 50, .inl (cI, 16, .inl (upd pQ (4 * a + ns a) c)))] := hD
                refine lv_aload_n hx hb d_Mo_addStream_100 rfl (lv_at hl 0 rfl) ?_
                refine va_get (D := D) (ci := 13) (v := .ref (r 48)) (C := R_Mo) (T := F_Mo) (N := 54) hx hb hts i_Mo hown hK hP 0 rfl rfl 48 (by decide) (hts _ wd_1136) (fun _ h9 => h9) rfl d_Mo_addStream_101 ?_
                refine lv_iload_n hx hb d_Mo_addStream_104 rfl (lv_at hl 1 rfl) ?_
                refine lv_dup2_11 hx hb d_Mo_addStream_105 rfl rfl ?_
                refine z_iald hx hb hK hP 1 0 rfl rfl a rfl (by omega) (by omega) d_Mo_addStream_106 ?_
                refine z_topi (w := nI (ns a)) hnj.1 ?_
                refine lv_iconst (v := 1) hx hb d_Mo_addStream_107 (by decide) ?_
                refine lv_iadd hx hb d_Mo_addStream_108 ?_
                refine z_topi (w := nI (ns a + 1)) (nI_1 _) ?_
                refine z_iast hx hb hK hP hD hS 1 0 rfl rfl a rfl (by omega) (by omega) d_Mo_addStream_109 (fun H locs hP hD hS => ?_)
                have hP : va_P D classes [(h, .inr (13, mO r 0 si le lv pg pn (nI np) rs)), (r 48, .inl (cI, 4, .inl (upd pS a (nI (ns a + 1))))), (r 49, .inl (cI, 16, .inl (upd pT (4 * a + ns a) ty))), (r 50, .inl (cI, 16, .inl (upd pQ (4 * a + ns a) c)))] H := hP
                have hD : va_D A [(h, .inr (13, mO r 0 si le lv pg pn (nI np) rs)), (r 48, .inl (cI, 4, .inl (upd pS a (nI (ns a + 1))))), (r 49, .inl (cI, 16, .inl (upd pT (4 * a + ns a) ty))), (r 50, .inl (cI, 16, .inl (upd pQ (4 * a + ns a) c)))] := hD
                refine lv_aload_n hx hb d_Mo_addStream_110 rfl (lv_at hl 0 rfl) ?_
                refine va_get (D := D) (ci := 13) (v := .ref (r 48)) (C := R_Mo) (T := F_Mo) (N := 54) hx hb hts i_Mo hown hK hP 0 rfl rfl 48 (by decide) (hts _ wd_1136) (fun _ h9 => h9) rfl d_Mo_addStream_111 ?_
                refine lv_iload_n hx hb d_Mo_addStream_114 rfl (lv_at hl 1 rfl) ?_
                refine z_iald hx hb hK hP 1 0 rfl rfl a rfl (by omega) (by omega) d_Mo_addStream_115 ?_
                refine z_topi (w := nI (ns a + 1)) pk_us ?_
                have hP9 := hP.sub (ws' := [(h, .inr (13, mO r 0 si le lv pg pn (nI np) rs)), (r 48, .inl (cI, 4, .inl (upd pS a (nI (ns a + 1))))), (r 49, .inl (cI, 16, .inl (upd pT (4 * a + ns a) ty))), (r 50, .inl (cI, 16, .inl (upd pQ (4 * a + ns a) c)))]) [0, 1, 2, 3] rfl
                have hD9 := hD.sub (ws' := [(h, .inr (13, mO r 0 si le lv pg pn (nI np) rs)), (r 48, .inl (cI, 4, .inl (upd pS a (nI (ns a + 1))))), (r 49, .inl (cI, 16, .inl (upd pT (4 * a + ns a) ty))), (r 50, .inl (cI, 16, .inl (upd pQ (4 * a + ns a) c)))]) [0, 1, 2, 3] (by decide) rfl
                have hK9 := hK.sub (tys' := [(cI, .int)]) [0] rfl
                exact W.iret (v := (nI (ns a + 1))) hx hb hr (fun t ht hW => ⟨⟨_, (0, upd pS a (nI (ns a + 1)), upd pT (4 * a + ns a) ty, upd pQ (4 * a + ns a) c), rfl, Or.inr ⟨a, rfl, ha, Or.inr ⟨hno, Or.inr ⟨h63, rfl, rfl⟩⟩⟩, ⟨by rw [ht]; exact hP9, va_K.moved hW.alike hK9, hD9⟩⟩, hS.F ht⟩) hS.2.2 d_Mo_addStream_116
              · have h63 := (nI_eq (b := 4) (by omega) (by omega)).mp h63
                refine lv_iconst (v := (-1)) hx hb d_Mo_addStream_66 (by decide) ?_
                have hP9 := hP.sub (ws' := [(h, .inr (13, mO r 0 si le lv pg pn (nI np) rs)), (r 48, .inl (cI, 4, .inl pS)), (r 49, .inl (cI, 16, .inl pT)), (r 50, .inl (cI, 16, .inl pQ))]) [0, 1, 2, 3] rfl
                have hD9 := hD.sub (ws' := [(h, .inr (13, mO r 0 si le lv pg pn (nI np) rs)), (r 48, .inl (cI, 4, .inl pS)), (r 49, .inl (cI, 16, .inl pT)), (r 50, .inl (cI, 16, .inl pQ))]) [0, 1, 2, 3] (by decide) rfl
                have hK9 := hK.sub (tys' := [(cI, .int)]) [0] rfl
                exact W.iret (v := (-1)) hx hb hr (fun t ht hW => ⟨⟨_, (0, pS, pT, pQ), rfl, Or.inr ⟨a, rfl, ha, Or.inr ⟨hno, Or.inl ⟨h63, rfl, rfl⟩⟩⟩, ⟨by rw [ht]; exact hP9, va_K.moved hW.alike hK9, hD9⟩⟩, hS.F ht⟩) hS.2.2 d_Mo_addStream_67
            · refine lv_iconst (v := 2) hx hb d_Mo_addStream_39 (by decide) ?_
              refine lv_goto (tgt := 44) hx hb d_Mo_addStream_40 rfl ?_
              refine va_put (D := D) (ci := 13) (v := .int 2) (ty := .int) (C := R_Mo) (T := F_Mo) (N := 54) hx hb hts i_Mo t_Mo t_Mo_ok n_Mo hown hK hP hD hS 0 rfl rfl 0 (by decide) (hts _ wd_1088) (fun _ h9 => h9) rfl (by decide +kernel) rfl rfl (Nat.le_of_ble_eq_true rfl) d_Mo_addStream_44 (fun H locs hP hD hS => ?_)
              have hP : va_P D classes [(h, .inr (13, mO r 2 si le lv pg pn (nI np) rs)), (r 48, .inl (cI, 4, .inl pS)), (r 49, .inl (cI, 16, .inl pT)), (r 50, .inl (cI, 16, .inl pQ))] H := hP
              have hD : va_D A [(h, .inr (13, mO r 2 si le lv pg pn (nI np) rs)), (r 48, .inl (cI, 4, .inl pS)), (r 49, .inl (cI, 16, .inl pT)), (r 50, .inl (cI, 16, .inl pQ))] := hD
              refine lv_aload_n hx hb d_Mo_addStream_47 rfl (lv_at hl 0 rfl) ?_
              refine va_get (D := D) (ci := 13) (v := .int 2) (C := R_Mo) (T := F_Mo) (N := 54) hx hb hts i_Mo hown hK hP 0 rfl rfl 0 (by decide) (hts _ wd_1088) (fun _ h9 => h9) rfl d_Mo_addStream_48 ?_
              refine lv_if_le (tgt := 56) hx hb d_Mo_addStream_51 rfl (fun h9 => absurd h9 (by decide)) (fun h51 => ?_)
              refine lv_iconst (v := 0) hx hb d_Mo_addStream_54 (by decide) ?_
              have hP9 := hP.sub (ws' := [(h, .inr (13, mO r 2 si le lv pg pn (nI np) rs)), (r 48, .inl (cI, 4, .inl pS)), (r 49, .inl (cI, 16, .inl pT)), (r 50, .inl (cI, 16, .inl pQ))]) [0, 1, 2, 3] rfl
              have hD9 := hD.sub (ws' := [(h, .inr (13, mO r 2 si le lv pg pn (nI np) rs)), (r 48, .inl (cI, 4, .inl pS)), (r 49, .inl (cI, 16, .inl pT)), (r 50, .inl (cI, 16, .inl pQ))]) [0, 1, 2, 3] (by decide) rfl
              have hK9 := hK.sub (tys' := [(cI, .int)]) [0] rfl
              exact W.iret (v := 0) hx hb hr (fun t ht hW => ⟨⟨_, (2, pS, pT, pQ), rfl, Or.inr ⟨a, rfl, ha, Or.inl ⟨by first | exact Or.inl h18 | exact Or.inr (Or.inl h25) | exact Or.inr (Or.inr (Or.inl h29)) | exact Or.inr (Or.inr (Or.inr (Int32.not_le.mp h36))), rfl, rfl⟩⟩, ⟨by rw [ht]; exact hP9, va_K.moved hW.alike hK9, hD9⟩⟩, hS.F ht⟩) hS.2.2 d_Mo_addStream_55
    · refine lv_iconst (v := 1) hx hb d_Mo_addStream_13 (by decide) ?_
      refine lv_goto (tgt := 44) hx hb d_Mo_addStream_14 rfl ?_
      refine va_put (D := D) (ci := 13) (v := .int 1) (ty := .int) (C := R_Mo) (T := F_Mo) (N := 54) hx hb hts i_Mo t_Mo t_Mo_ok n_Mo hown hK hP hD hS 0 rfl rfl 0 (by decide) (hts _ wd_1088) (fun _ h9 => h9) rfl (by decide +kernel) rfl rfl (Nat.le_of_ble_eq_true rfl) d_Mo_addStream_44 (fun H locs hP hD hS => ?_)
      have hP : va_P D classes [(h, .inr (13, mO r 1 si le lv pg pn (nI np) rs)), (r 48, .inl (cI, 4, .inl pS)), (r 49, .inl (cI, 16, .inl pT)), (r 50, .inl (cI, 16, .inl pQ))] H := hP
      have hD : va_D A [(h, .inr (13, mO r 1 si le lv pg pn (nI np) rs)), (r 48, .inl (cI, 4, .inl pS)), (r 49, .inl (cI, 16, .inl pT)), (r 50, .inl (cI, 16, .inl pQ))] := hD
      refine lv_aload_n hx hb d_Mo_addStream_47 rfl (lv_at hl 0 rfl) ?_
      refine va_get (D := D) (ci := 13) (v := .int 1) (C := R_Mo) (T := F_Mo) (N := 54) hx hb hts i_Mo hown hK hP 0 rfl rfl 0 (by decide) (hts _ wd_1088) (fun _ h9 => h9) rfl d_Mo_addStream_48 ?_
      refine lv_if_le (tgt := 56) hx hb d_Mo_addStream_51 rfl (fun h9 => absurd h9 (by decide)) (fun h51 => ?_)
      refine lv_iconst (v := 0) hx hb d_Mo_addStream_54 (by decide) ?_
      have hP9 := hP.sub (ws' := [(h, .inr (13, mO r 1 si le lv pg pn (nI np) rs)), (r 48, .inl (cI, 4, .inl pS)), (r 49, .inl (cI, 16, .inl pT)), (r 50, .inl (cI, 16, .inl pQ))]) [0, 1, 2, 3] rfl
      have hD9 := hD.sub (ws' := [(h, .inr (13, mO r 1 si le lv pg pn (nI np) rs)), (r 48, .inl (cI, 4, .inl pS)), (r 49, .inl (cI, 16, .inl pT)), (r 50, .inl (cI, 16, .inl pQ))]) [0, 1, 2, 3] (by decide) rfl
      have hK9 := hK.sub (tys' := [(cI, .int)]) [0] rfl
      exact W.iret (v := 0) hx hb hr (fun t ht hW => ⟨⟨_, (1, pS, pT, pQ), rfl, Or.inl ⟨by first | exact Or.inl h2 | exact Or.inr h10, rfl, rfl⟩, ⟨by rw [ht]; exact hP9, va_K.moved hW.alike hK9, hD9⟩⟩, hS.F ht⟩) hS.2.2 d_Mo_addStream_55
set_option maxHeartbeats 4000000 in
set_option maxRecDepth 100000 in
theorem c_Mo_forget (l : Launch) (D : va_G) (sz : Nat) (cI : ClassId) (h : Nat) (r : Nat → Nat) (th si le lv pg pn pl rs : Int32)  : Met l y_Mo_forget [Cond.code y_Mo_forget b_Mo_forget 1 none] ({ frames := 0, cells := 0, slots := 0, locals := 0 }) (zM [.ref h] D [(h, .inr (13, mO r th si le lv pg pn pl rs))] [] sz) (va_Qv (fun (_ : Unit) => True) (fun (_u : Unit) t => zW D (va_A [(h, .inr (13, mO r th si le lv pg pn pl rs))] sz) [(h, .inr (13, mO r 0 si le lv pg pn 0 rs))] [] t) (va_A [(h, .inr (13, mO r th si le lv pg pn pl rs))] sz)) 0 0 (va_A [(h, .inr (13, mO r th si le lv pg pn pl rs))] sz) := by
  refine Met.ofW (cc := b_Mo_forget) (maxL := 1) (ret := none) (by decide) rfl ?_
  intro p e s m args below meth cd s₁ Bd hml hv
  obtain ⟨rfl, hsz, hP, hK, hN, hD0⟩ := hv
  have hx := Bd.exec
  have hb := Bd.bytes
  have hr := Bd.returns
  have hts := hN.use (a := ([.ref h]).toArray)
  have hown : s.vm.findClass R_Mo = some m.cls := findClass_of_methodNamed Bd.named
  have hlocks := Bd.notSynchronized
  subst hsz
  have hD := hD0.self (sz := s.heap.size)
  clear hD0
  have hA : ∀ q : Nat, s.heap.size ≤ q → va_A [(h, .inr (13, mO r th si le lv pg pn pl rs))] s.heap.size q := fun q h => Or.inr h
  have hS : va_S (va_A [(h, .inr (13, mO r th si le lv pg pn pl rs))] s.heap.size) s.heap s.heap [] := va_S.rf
  generalize hAe : va_A [(h, .inr (13, mO r th si le lv pg pn pl rs))] s.heap.size = A at hD hA hS ⊢
  have hP : va_P D classes [(h, .inr (13, mO r th si le lv pg pn pl rs))] s.heap := hP
  have hl := lv_entry ([.ref h]) (n := 1) (Nat.le_of_ble_eq_true rfl)
  rw [lg_entry_eq]
  generalize (lg_sl ([.ref h]) ++ List.replicate (1 - (lg_sl ([.ref h])).length) Slot.unset).toArray = ls at hl ⊢
  have hl : lv_has ls 1 [(0, .ref h)] := hl
  refine lv_aload_n hx hb d_Mo_forget_0 rfl (lv_at hl 0 rfl) ?_
  refine lv_iconst (v := 0) hx hb d_Mo_forget_1 (by decide) ?_
  refine va_put (D := D) (ci := 13) (v := .int 0) (ty := .int) (C := R_Mo) (T := F_Mo) (N := 54) hx hb hts i_Mo t_Mo t_Mo_ok n_Mo hown hK hP hD hS 0 rfl rfl 0 (by decide) (hts _ wd_1088) (fun _ h9 => h9) rfl (by decide +kernel) rfl rfl (Nat.le_of_ble_eq_true rfl) d_Mo_forget_2 (fun H locs hP hD hS => ?_)
  have hP : va_P D classes [(h, .inr (13, mO r 0 si le lv pg pn pl rs))] H := hP
  have hD : va_D A [(h, .inr (13, mO r 0 si le lv pg pn pl rs))] := hD
  refine lv_aload_n hx hb d_Mo_forget_5 rfl (lv_at hl 0 rfl) ?_
  refine lv_iconst (v := 0) hx hb d_Mo_forget_6 (by decide) ?_
  refine va_put (D := D) (ci := 13) (v := .int 0) (ty := .int) (C := R_Mo) (T := F_Mo) (N := 54) hx hb hts i_Mo t_Mo t_Mo_ok n_Mo hown hK hP hD hS 0 rfl rfl 45 (by decide) (hts _ wd_1133) (fun _ h9 => h9) rfl (by decide +kernel) rfl rfl (Nat.le_of_ble_eq_true rfl) d_Mo_forget_7 (fun H locs hP hD hS => ?_)
  have hP : va_P D classes [(h, .inr (13, mO r 0 si le lv pg pn 0 rs))] H := hP
  have hD : va_D A [(h, .inr (13, mO r 0 si le lv pg pn 0 rs))] := hD
  have hP9 := hP.sub (ws' := [(h, .inr (13, mO r 0 si le lv pg pn 0 rs))]) [0] rfl
  have hD9 := hD.sub (ws' := [(h, .inr (13, mO r 0 si le lv pg pn 0 rs))]) [0] (by decide) rfl
  have hK9 := hK.sub (tys' := []) [] rfl
  exact W.vret hx hb hr (fun t ht hW => ⟨⟨(), rfl, trivial, ⟨by rw [ht]; exact hP9, va_K.moved hW.alike hK9, hD9⟩⟩, hS.F ht⟩) hS.2.2 d_Mo_forget_10
